section
-- ===== PART A: goes FIRST, ahead of the names: the tables' words, and 'selects' of the private methods out of them =====
/-- a private method of a class that the tables say can be made, by its rows of tables_1 -/
def lw_okq (q : MethodName × Nat) : Prop := (q.1.cls ≠ "java/lang/invoke/MethodHandle" ∧ q.1.cls ≠ "java/lang/invoke/VarHandle") ∧ Cond.instantiable q.1.cls q.2 ∈ tables_1 ∧ Cond.privateMethod q.1 ∈ tables_1 ∧ Cond.instanceMethod q.1 ∈ tables_1
theorem lw_p0 : lw_okq (⟨"java/lang/Throwable", "fillInStackTrace", "(I)Ljava/lang/Throwable;"⟩, 6) := ⟨⟨by decide +kernel, by decide +kernel⟩, List.mem_of_getElem? (i := 273) (by decide +kernel), List.mem_of_getElem? (i := 271) (by decide +kernel), List.mem_of_getElem? (i := 272) (by decide +kernel)⟩
theorem lw_p1 : lw_okq (⟨"IronbridgeCache", "checkClient", "(I)V"⟩, 2) := ⟨⟨by decide +kernel, by decide +kernel⟩, List.mem_of_getElem? (i := 16) (by decide +kernel), List.mem_of_getElem? (i := 337) (by decide +kernel), List.mem_of_getElem? (i := 338) (by decide +kernel)⟩
theorem lw_p2 : lw_okq (⟨"IronbridgeCache$Net", "sendStore", "(II)V"⟩, 8) := ⟨⟨by decide +kernel, by decide +kernel⟩, List.mem_of_getElem? (i := 24) (by decide +kernel), List.mem_of_getElem? (i := 373) (by decide +kernel), List.mem_of_getElem? (i := 374) (by decide +kernel)⟩
theorem lw_p3 : lw_okq (⟨"IronbridgeCache$Net", "send", "(IIIIII)V"⟩, 8) := ⟨⟨by decide +kernel, by decide +kernel⟩, List.mem_of_getElem? (i := 24) (by decide +kernel), List.mem_of_getElem? (i := 377) (by decide +kernel), List.mem_of_getElem? (i := 378) (by decide +kernel)⟩
theorem lw_p4 : lw_okq (⟨"IronbridgeCache$Net", "slotAt", "(I)LIronbridgeCache$Table;"⟩, 8) := ⟨⟨by decide +kernel, by decide +kernel⟩, List.mem_of_getElem? (i := 24) (by decide +kernel), List.mem_of_getElem? (i := 381) (by decide +kernel), List.mem_of_getElem? (i := 382) (by decide +kernel)⟩
theorem lw_p5 : lw_okq (⟨"IronbridgeCache$Table", "isCell", "(II)Z"⟩, 3) := ⟨⟨by decide +kernel, by decide +kernel⟩, List.mem_of_getElem? (i := 43) (by decide +kernel), List.mem_of_getElem? (i := 400) (by decide +kernel), List.mem_of_getElem? (i := 401) (by decide +kernel)⟩
theorem lw_p6 : lw_okq (⟨"IronbridgeCache$Client", "placeOf", "(I)I"⟩, 12) := ⟨⟨by decide +kernel, by decide +kernel⟩, List.mem_of_getElem? (i := 35) (by decide +kernel), List.mem_of_getElem? (i := 431) (by decide +kernel), List.mem_of_getElem? (i := 432) (by decide +kernel)⟩
theorem lw_p7 : lw_okq (⟨"IronbridgeCache$Net", "bring", "(LIronbridgeCache$Table;I)V"⟩, 8) := ⟨⟨by decide +kernel, by decide +kernel⟩, List.mem_of_getElem? (i := 24) (by decide +kernel), List.mem_of_getElem? (i := 527) (by decide +kernel), List.mem_of_getElem? (i := 528) (by decide +kernel)⟩
theorem lw_p8 : lw_okq (⟨"IronbridgeCache$Net", "lookAtFirst", "(I)V"⟩, 8) := ⟨⟨by decide +kernel, by decide +kernel⟩, List.mem_of_getElem? (i := 24) (by decide +kernel), List.mem_of_getElem? (i := 543) (by decide +kernel), List.mem_of_getElem? (i := 544) (by decide +kernel)⟩
theorem lw_p9 : lw_okq (⟨"IronbridgeCache$Net", "callOthers", "(II)V"⟩, 8) := ⟨⟨by decide +kernel, by decide +kernel⟩, List.mem_of_getElem? (i := 24) (by decide +kernel), List.mem_of_getElem? (i := 547) (by decide +kernel), List.mem_of_getElem? (i := 548) (by decide +kernel)⟩
theorem lw_p10 : lw_okq (⟨"IronbridgeCache$Net", "answer", "(II)V"⟩, 8) := ⟨⟨by decide +kernel, by decide +kernel⟩, List.mem_of_getElem? (i := 24) (by decide +kernel), List.mem_of_getElem? (i := 561) (by decide +kernel), List.mem_of_getElem? (i := 562) (by decide +kernel)⟩
theorem lw_p11 : lw_okq (⟨"IronbridgeCache$Client", "makesRoom", "(I)Z"⟩, 12) := ⟨⟨by decide +kernel, by decide +kernel⟩, List.mem_of_getElem? (i := 35) (by decide +kernel), List.mem_of_getElem? (i := 573) (by decide +kernel), List.mem_of_getElem? (i := 574) (by decide +kernel)⟩
theorem lw_p12 : lw_okq (⟨"IronbridgeCache$Client", "keepAside", "(II)V"⟩, 12) := ⟨⟨by decide +kernel, by decide +kernel⟩, List.mem_of_getElem? (i := 35) (by decide +kernel), List.mem_of_getElem? (i := 594) (by decide +kernel), List.mem_of_getElem? (i := 595) (by decide +kernel)⟩
theorem lw_p13 : lw_okq (⟨"IronbridgeCache$Shelf", "leasedSet", "(I)I"⟩, 5) := ⟨⟨by decide +kernel, by decide +kernel⟩, List.mem_of_getElem? (i := 161) (by decide +kernel), List.mem_of_getElem? (i := 629) (by decide +kernel), List.mem_of_getElem? (i := 630) (by decide +kernel)⟩
def lw_privs_1 : List (MethodName × Nat) := [(⟨"java/lang/Throwable", "fillInStackTrace", "(I)Ljava/lang/Throwable;"⟩, 6), (⟨"IronbridgeCache", "checkClient", "(I)V"⟩, 2), (⟨"IronbridgeCache$Net", "sendStore", "(II)V"⟩, 8), (⟨"IronbridgeCache$Net", "send", "(IIIIII)V"⟩, 8), (⟨"IronbridgeCache$Net", "slotAt", "(I)LIronbridgeCache$Table;"⟩, 8), (⟨"IronbridgeCache$Table", "isCell", "(II)Z"⟩, 3), (⟨"IronbridgeCache$Client", "placeOf", "(I)I"⟩, 12), (⟨"IronbridgeCache$Net", "bring", "(LIronbridgeCache$Table;I)V"⟩, 8), (⟨"IronbridgeCache$Net", "lookAtFirst", "(I)V"⟩, 8), (⟨"IronbridgeCache$Net", "callOthers", "(II)V"⟩, 8), (⟨"IronbridgeCache$Net", "answer", "(II)V"⟩, 8), (⟨"IronbridgeCache$Client", "makesRoom", "(I)Z"⟩, 12), (⟨"IronbridgeCache$Client", "keepAside", "(II)V"⟩, 12), (⟨"IronbridgeCache$Shelf", "leasedSet", "(I)I"⟩, 5)]
theorem lw_r1 : ∀ q ∈ lw_privs_1, lw_okq q := List.forall_mem_cons.mpr ⟨lw_p0, List.forall_mem_cons.mpr ⟨lw_p1, List.forall_mem_cons.mpr ⟨lw_p2, List.forall_mem_cons.mpr ⟨lw_p3, List.forall_mem_cons.mpr ⟨lw_p4, List.forall_mem_cons.mpr ⟨lw_p5, List.forall_mem_cons.mpr ⟨lw_p6, List.forall_mem_cons.mpr ⟨lw_p7, List.forall_mem_cons.mpr ⟨lw_p8, List.forall_mem_cons.mpr ⟨lw_p9, List.forall_mem_cons.mpr ⟨lw_p10, List.forall_mem_cons.mpr ⟨lw_p11, List.forall_mem_cons.mpr ⟨lw_p12, List.forall_mem_cons.mpr ⟨lw_p13, fun _ h => absurd h List.not_mem_nil⟩⟩⟩⟩⟩⟩⟩⟩⟩⟩⟩⟩⟩⟩
def lw_privs : List (MethodName × Nat) := lw_privs_1
def lw_tbl : List Cond := k2_sels lw_privs ++ tables_1
theorem lw_privs_ok : ∀ q ∈ lw_privs, lw_okq q := lw_r1
/-- the streams that the claim lets the run draw from -/
abbrev lw_cs : List Choice := [Jvm.Choice.named "NaN.bits"]
theorem lw_bits : nanBits ∈ lw_cs := by first | decide | exact List.mem_cons_self | simp [lw_cs, nanBits]
-- ===== end of PART A; then your names; then what follows =====
def RX0 : String := "IronbridgeCache$Client"
def TX0 : u_T := fun k => match k with
  | 0 => ("IronbridgeCache$Client", "files", "[LIronbridgeCache$Held;", true)
  | 1 => ("IronbridgeCache$Client", "order", "[I", true)
  | 2 => ("IronbridgeCache$Client", "count", "I", false)
  | 3 => ("IronbridgeCache$Client", "kept", "LIronbridgeCache$Table;", true)
  | 4 => ("IronbridgeCache$Client", "delay", "I", false)
  | 5 => ("IronbridgeCache$Client", "habit", "I", false)
  | 6 => ("IronbridgeCache$Client", "isCut", "Z", false)
  | 7 => ("IronbridgeCache$Client", "hits", "I", false)
  | 8 => ("IronbridgeCache$Client", "misses", "I", false)
  | 9 => ("IronbridgeCache$Client", "conflicts", "I", false)
  | 10 => ("IronbridgeCache$Client", "calls", "I", false)
  | _ => ("IronbridgeCache$Client", "lost", "I", false)
def tyX0 : Nat → FieldType := fun k => match k with
  | 0 => .array (.object "IronbridgeCache$Held")
  | 1 => .array .int
  | 2 => .int
  | 3 => .object "IronbridgeCache$Table"
  | 4 => .int
  | 5 => .int
  | 6 => .boolean
  | 7 => .int
  | 8 => .int
  | 9 => .int
  | 10 => .int
  | _ => .int
abbrev wsX00 : List Cond := u_ws RX0 TX0 12
theorem nmX0 : ∀ a, a < 12 → ∀ b, b < 12 → a ≠ b → (TX0 a).2.1 ≠ (TX0 b).2.1 := by decide +kernel
theorem tyX0_ok : ∀ k, k < 12 → parseFieldDescriptor (TX0 k).2.2.1 = some (tyX0 k) := by decide +kernel
abbrev cX0_init : ByteArray := prog_2_method_1_code
def yX0_init : MethodName := ⟨RX0, "<init>", "()V"⟩
abbrev cX0_cutLine : ByteArray := prog_2_method_2_code
def yX0_cutLine : MethodName := ⟨RX0, "cutLine", "()V"⟩
abbrev cX0_endLeases : ByteArray := prog_2_method_3_code
def yX0_endLeases : MethodName := ⟨RX0, "endLeases", "()V"⟩
abbrev cX0_use : ByteArray := prog_2_method_4_code
def yX0_use : MethodName := ⟨RX0, "use", "(I)V"⟩
abbrev cX0_placeOf : ByteArray := prog_2_method_5_code
def yX0_placeOf : MethodName := ⟨RX0, "placeOf", "(I)I"⟩
abbrev cX0_letGo : ByteArray := prog_2_method_6_code
def yX0_letGo : MethodName := ⟨RX0, "letGo", "(I)V"⟩
abbrev cX0_takeGiven : ByteArray := prog_2_method_7_code
def yX0_takeGiven : MethodName := ⟨RX0, "takeGiven", "(IIIII)V"⟩
abbrev cX0_makesRoom : ByteArray := prog_2_method_8_code
def yX0_makesRoom : MethodName := ⟨RX0, "makesRoom", "(I)Z"⟩
abbrev cX0_takeCall : ByteArray := prog_2_method_9_code
def yX0_takeCall : MethodName := ⟨RX0, "takeCall", "(I)V"⟩
abbrev cX0_takeClash : ByteArray := prog_2_method_10_code
def yX0_takeClash : MethodName := ⟨RX0, "takeClash", "(III)Z"⟩
abbrev cX0_keepAside : ByteArray := prog_2_method_11_code
def yX0_keepAside : MethodName := ⟨RX0, "keepAside", "(II)V"⟩
abbrev cX0_longestDirty : ByteArray := prog_2_method_12_code
def yX0_longestDirty : MethodName := ⟨RX0, "longestDirty", "()I"⟩
abbrev cX0_isClean : ByteArray := prog_2_method_13_code
def yX0_isClean : MethodName := ⟨RX0, "isClean", "()Z"⟩
abbrev cX0_tell : ByteArray := prog_2_method_14_code
def yX0_tell : MethodName := ⟨RX0, "tell", "(I)I"⟩
abbrev cX0_addToDigest : ByteArray := prog_2_method_15_code
def yX0_addToDigest : MethodName := ⟨RX0, "addToDigest", "(JI)J"⟩
abbrev cX0_copyFrom : ByteArray := prog_2_method_16_code
def yX0_copyFrom : MethodName := ⟨RX0, "copyFrom", "(LIronbridgeCache$Client;)V"⟩
def RX1 : String := "IronbridgeCache$Held"
def TX1 : u_T := fun k => match k with
  | 0 => ("IronbridgeCache$Held", "isHeld", "Z", false)
  | 1 => ("IronbridgeCache$Held", "content", "I", false)
  | 2 => ("IronbridgeCache$Held", "version", "I", false)
  | 3 => ("IronbridgeCache$Held", "until", "I", false)
  | 4 => ("IronbridgeCache$Held", "isDirty", "Z", false)
  | 5 => ("IronbridgeCache$Held", "dirtySince", "I", false)
  | 6 => ("IronbridgeCache$Held", "asks", "Z", false)
  | _ => ("IronbridgeCache$Held", "sends", "Z", false)
def tyX1 : Nat → FieldType := fun k => match k with
  | 0 => .boolean
  | 1 => .int
  | 2 => .int
  | 3 => .int
  | 4 => .boolean
  | 5 => .int
  | 6 => .boolean
  | _ => .boolean
abbrev wsX10 : List Cond := u_ws RX1 TX1 8
theorem nmX1 : ∀ a, a < 8 → ∀ b, b < 8 → a ≠ b → (TX1 a).2.1 ≠ (TX1 b).2.1 := by decide +kernel
theorem tyX1_ok : ∀ k, k < 8 → parseFieldDescriptor (TX1 k).2.2.1 = some (tyX1 k) := by decide +kernel
abbrev cX1_init : ByteArray := prog_3_method_1_code
def yX1_init : MethodName := ⟨RX1, "<init>", "()V"⟩
abbrev cX1_isTrusted : ByteArray := prog_3_method_2_code
def yX1_isTrusted : MethodName := ⟨RX1, "isTrusted", "(IZ)Z"⟩
abbrev cX1_putContent : ByteArray := prog_3_method_3_code
def yX1_putContent : MethodName := ⟨RX1, "putContent", "(II)V"⟩
abbrev cX1_beGiven : ByteArray := prog_3_method_4_code
def yX1_beGiven : MethodName := ⟨RX1, "beGiven", "(III)V"⟩
abbrev cX1_beStored : ByteArray := prog_3_method_5_code
def yX1_beStored : MethodName := ⟨RX1, "beStored", "(III)V"⟩
abbrev cX1_tell : ByteArray := prog_3_method_6_code
def yX1_tell : MethodName := ⟨RX1, "tell", "(IIZ)I"⟩
abbrev cX1_copyFrom : ByteArray := prog_3_method_7_code
def yX1_copyFrom : MethodName := ⟨RX1, "copyFrom", "(LIronbridgeCache$Held;)V"⟩
def RX2 : String := "IronbridgeCache$Net"
def TX2 : u_T := fun k => match k with
  | 0 => ("IronbridgeCache$Net", "clock", "I", false)
  | 1 => ("IronbridgeCache$Net", "term", "I", false)
  | 2 => ("IronbridgeCache$Net", "lag", "I", false)
  | 3 => ("IronbridgeCache$Net", "room", "I", false)
  | 4 => ("IronbridgeCache$Net", "clientCount", "I", false)
  | 5 => ("IronbridgeCache$Net", "clients", "[LIronbridgeCache$Client;", true)
  | 6 => ("IronbridgeCache$Net", "shelves", "[LIronbridgeCache$Shelf;", true)
  | _ => ("IronbridgeCache$Net", "slots", "[LIronbridgeCache$Table;", true)
def tyX2 : Nat → FieldType := fun k => match k with
  | 0 => .int
  | 1 => .int
  | 2 => .int
  | 3 => .int
  | 4 => .int
  | 5 => .array (.object "IronbridgeCache$Client")
  | 6 => .array (.object "IronbridgeCache$Shelf")
  | _ => .array (.object "IronbridgeCache$Table")
abbrev wsX20 : List Cond := u_ws RX2 TX2 8
theorem nmX2 : ∀ a, a < 8 → ∀ b, b < 8 → a ≠ b → (TX2 a).2.1 ≠ (TX2 b).2.1 := by decide +kernel
theorem tyX2_ok : ∀ k, k < 8 → parseFieldDescriptor (TX2 k).2.2.1 = some (tyX2 k) := by decide +kernel
abbrev cX2_init : ByteArray := prog_4_method_1_code
def yX2_init : MethodName := ⟨RX2, "<init>", "()V"⟩
abbrev cX2_isClient : ByteArray := prog_4_method_2_code
def yX2_isClient : MethodName := ⟨RX2, "isClient", "(I)Z"⟩
abbrev cX2_join : ByteArray := prog_4_method_3_code
def yX2_join : MethodName := ⟨RX2, "join", "(II)I"⟩
abbrev cX2_slotAt : ByteArray := prog_4_method_4_code
def yX2_slotAt : MethodName := ⟨RX2, "slotAt", "(I)LIronbridgeCache$Table;"⟩
abbrev cX2_thingCount : ByteArray := prog_4_method_5_code
def yX2_thingCount : MethodName := ⟨RX2, "thingCount", "()I"⟩
abbrev cX2_tellThing : ByteArray := prog_4_method_6_code
def yX2_tellThing : MethodName := ⟨RX2, "tellThing", "(II)I"⟩
abbrev cX2_addThingsToDigest : ByteArray := prog_4_method_7_code
def yX2_addThingsToDigest : MethodName := ⟨RX2, "addThingsToDigest", "(J)J"⟩
abbrev cX2_send : ByteArray := prog_4_method_8_code
def yX2_send : MethodName := ⟨RX2, "send", "(IIIIII)V"⟩
abbrev cX2_sendStore : ByteArray := prog_4_method_9_code
def yX2_sendStore : MethodName := ⟨RX2, "sendStore", "(II)V"⟩
abbrev cX2_reach : ByteArray := prog_4_method_10_code
def yX2_reach : MethodName := ⟨RX2, "reach", "(II)Z"⟩
abbrev cX2_mendLine : ByteArray := prog_4_method_11_code
def yX2_mendLine : MethodName := ⟨RX2, "mendLine", "(I)I"⟩
abbrev cX2_sendDirty : ByteArray := prog_4_method_12_code
def yX2_sendDirty : MethodName := ⟨RX2, "sendDirty", "(II)I"⟩
abbrev cX2_passTick : ByteArray := prog_4_method_13_code
def yX2_passTick : MethodName := ⟨RX2, "passTick", "()V"⟩
abbrev cX2_bring : ByteArray := prog_4_method_14_code
def yX2_bring : MethodName := ⟨RX2, "bring", "(LIronbridgeCache$Table;I)V"⟩
abbrev cX2_lookAtFirst : ByteArray := prog_4_method_15_code
def yX2_lookAtFirst : MethodName := ⟨RX2, "lookAtFirst", "(I)V"⟩
abbrev cX2_callOthers : ByteArray := prog_4_method_16_code
def yX2_callOthers : MethodName := ⟨RX2, "callOthers", "(II)V"⟩
abbrev cX2_answer : ByteArray := prog_4_method_17_code
def yX2_answer : MethodName := ⟨RX2, "answer", "(II)V"⟩
abbrev cX2_isCalm : ByteArray := prog_4_method_18_code
def yX2_isCalm : MethodName := ⟨RX2, "isCalm", "()Z"⟩
abbrev cX2_staleCount : ByteArray := prog_4_method_19_code
def yX2_staleCount : MethodName := ⟨RX2, "staleCount", "()I"⟩
abbrev cX2_copyFrom : ByteArray := prog_4_method_20_code
def yX2_copyFrom : MethodName := ⟨RX2, "copyFrom", "(LIronbridgeCache$Net;)V"⟩
def RX3 : String := "IronbridgeCache$Shelf"
def TX3 : u_T := fun k => match k with
  | 0 => ("IronbridgeCache$Shelf", "content", "I", false)
  | 1 => ("IronbridgeCache$Shelf", "version", "I", false)
  | 2 => ("IronbridgeCache$Shelf", "until", "[I", true)
  | 3 => ("IronbridgeCache$Shelf", "requests", "LIronbridgeCache$Table;", true)
  | _ => ("IronbridgeCache$Shelf", "isFirstSeen", "Z", false)
def tyX3 : Nat → FieldType := fun k => match k with
  | 0 => .int
  | 1 => .int
  | 2 => .array .int
  | 3 => .object "IronbridgeCache$Table"
  | _ => .boolean
abbrev wsX30 : List Cond := u_ws RX3 TX3 5
theorem nmX3 : ∀ a, a < 5 → ∀ b, b < 5 → a ≠ b → (TX3 a).2.1 ≠ (TX3 b).2.1 := by decide +kernel
theorem tyX3_ok : ∀ k, k < 5 → parseFieldDescriptor (TX3 k).2.2.1 = some (tyX3 k) := by decide +kernel
abbrev cX3_init : ByteArray := prog_5_method_1_code
def yX3_init : MethodName := ⟨RX3, "<init>", "()V"⟩
abbrev cX3_isLeased : ByteArray := prog_5_method_2_code
def yX3_isLeased : MethodName := ⟨RX3, "isLeased", "(II)Z"⟩
abbrev cX3_hasToWait : ByteArray := prog_5_method_3_code
def yX3_hasToWait : MethodName := ⟨RX3, "hasToWait", "(II)Z"⟩
abbrev cX3_addRequest : ByteArray := prog_5_method_4_code
def yX3_addRequest : MethodName := ⟨RX3, "addRequest", "(IIII)I"⟩
abbrev cX3_leasedSet : ByteArray := prog_5_method_5_code
def yX3_leasedSet : MethodName := ⟨RX3, "leasedSet", "(I)I"⟩
abbrev cX3_tell : ByteArray := prog_5_method_6_code
def yX3_tell : MethodName := ⟨RX3, "tell", "(II)I"⟩
abbrev cX3_copyFrom : ByteArray := prog_5_method_7_code
def yX3_copyFrom : MethodName := ⟨RX3, "copyFrom", "(LIronbridgeCache$Shelf;)V"⟩
def RX4 : String := "IronbridgeCache$Table"
def TX4 : u_T := fun k => match k with
  | 0 => ("IronbridgeCache$Table", "width", "I", true)
  | 1 => ("IronbridgeCache$Table", "cells", "[I", false)
  | _ => ("IronbridgeCache$Table", "rows", "I", false)
def tyX4 : Nat → FieldType := fun k => match k with
  | 0 => .int
  | 1 => .array .int
  | _ => .int
abbrev wsX40 : List Cond := u_ws RX4 TX4 3
theorem nmX4 : ∀ a, a < 3 → ∀ b, b < 3 → a ≠ b → (TX4 a).2.1 ≠ (TX4 b).2.1 := by decide +kernel
theorem tyX4_ok : ∀ k, k < 3 → parseFieldDescriptor (TX4 k).2.2.1 = some (tyX4 k) := by decide +kernel
abbrev cX4_init : ByteArray := prog_6_method_1_code
def yX4_init : MethodName := ⟨RX4, "<init>", "(I)V"⟩
abbrev cX4_addRow : ByteArray := prog_6_method_2_code
def yX4_addRow : MethodName := ⟨RX4, "addRow", "()I"⟩
abbrev cX4_get : ByteArray := prog_6_method_3_code
def yX4_get : MethodName := ⟨RX4, "get", "(II)I"⟩
abbrev cX4_put : ByteArray := prog_6_method_4_code
def yX4_put : MethodName := ⟨RX4, "put", "(III)V"⟩
abbrev cX4_isCell : ByteArray := prog_6_method_5_code
def yX4_isCell : MethodName := ⟨RX4, "isCell", "(II)Z"⟩
abbrev cX4_dropFirst : ByteArray := prog_6_method_6_code
def yX4_dropFirst : MethodName := ⟨RX4, "dropFirst", "(I)V"⟩
abbrev cX4_copyFrom : ByteArray := prog_6_method_7_code
def yX4_copyFrom : MethodName := ⟨RX4, "copyFrom", "(LIronbridgeCache$Table;)V"⟩
def RX5 : String := "IronbridgeCache"
def TX5 : u_T := fun k => match k with
  | 0 => ("IronbridgeCache", "net", "LIronbridgeCache$Net;", true)
  | _ => ("IronbridgeCache", "trial", "LIronbridgeCache$Net;", true)
def tyX5 : Nat → FieldType := fun k => match k with
  | 0 => .object "IronbridgeCache$Net"
  | _ => .object "IronbridgeCache$Net"
abbrev wsX50 : List Cond := u_ws RX5 TX5 2
theorem nmX5 : ∀ a, a < 2 → ∀ b, b < 2 → a ≠ b → (TX5 a).2.1 ≠ (TX5 b).2.1 := by decide +kernel
theorem tyX5_ok : ∀ k, k < 2 → parseFieldDescriptor (TX5 k).2.2.1 = some (tyX5 k) := by decide +kernel
abbrev cX5_init : ByteArray := prog_1_method_1_code
def yX5_init : MethodName := ⟨RX5, "<init>", "()V"⟩
abbrev cX5_addClient : ByteArray := prog_1_method_2_code
def yX5_addClient : MethodName := ⟨RX5, "addClient", "(II)I"⟩
abbrev cX5_setTerm : ByteArray := prog_1_method_3_code
def yX5_setTerm : MethodName := ⟨RX5, "setTerm", "(II)I"⟩
abbrev cX5_setRoom : ByteArray := prog_1_method_4_code
def yX5_setRoom : MethodName := ⟨RX5, "setRoom", "(I)I"⟩
abbrev cX5_cut : ByteArray := prog_1_method_5_code
def yX5_cut : MethodName := ⟨RX5, "cut", "(IZ)I"⟩
abbrev cX5_read : ByteArray := prog_1_method_6_code
def yX5_read : MethodName := ⟨RX5, "read", "(II)I"⟩
abbrev cX5_write : ByteArray := prog_1_method_7_code
def yX5_write : MethodName := ⟨RX5, "write", "(III)Z"⟩
abbrev cX5_flush : ByteArray := prog_1_method_8_code
def yX5_flush : MethodName := ⟨RX5, "flush", "(I)I"⟩
abbrev cX5_tick : ByteArray := prog_1_method_9_code
def yX5_tick : MethodName := ⟨RX5, "tick", "(I)I"⟩
abbrev cX5_clock : ByteArray := prog_1_method_10_code
def yX5_clock : MethodName := ⟨RX5, "clock", "()I"⟩
abbrev cX5_clients : ByteArray := prog_1_method_11_code
def yX5_clients : MethodName := ⟨RX5, "clients", "()I"⟩
abbrev cX5_server : ByteArray := prog_1_method_12_code
def yX5_server : MethodName := ⟨RX5, "server", "(II)I"⟩
abbrev cX5_onTheWay : ByteArray := prog_1_method_15_code
def yX5_onTheWay : MethodName := ⟨RX5, "onTheWay", "()I"⟩
abbrev cX5_way : ByteArray := prog_1_method_16_code
def yX5_way : MethodName := ⟨RX5, "way", "(II)I"⟩
abbrev cX5_has : ByteArray := prog_1_method_17_code
def yX5_has : MethodName := ⟨RX5, "has", "(III)I"⟩
abbrev cX5_used : ByteArray := prog_1_method_18_code
def yX5_used : MethodName := ⟨RX5, "used", "(II)I"⟩
abbrev cX5_told : ByteArray := prog_1_method_19_code
def yX5_told : MethodName := ⟨RX5, "told", "(II)I"⟩
abbrev cX5_luck : ByteArray := prog_1_method_21_code
def yX5_luck : MethodName := ⟨RX5, "luck", "(I)D"⟩
abbrev cX5_stale : ByteArray := prog_1_method_22_code
def yX5_stale : MethodName := ⟨RX5, "stale", "()I"⟩
abbrev cX5_calmIn : ByteArray := prog_1_method_23_code
def yX5_calmIn : MethodName := ⟨RX5, "calmIn", "(I)I"⟩
abbrev cX5_contentIn : ByteArray := prog_1_method_24_code
def yX5_contentIn : MethodName := ⟨RX5, "contentIn", "(II)I"⟩
abbrev cX5_conflictsIn : ByteArray := prog_1_method_25_code
def yX5_conflictsIn : MethodName := ⟨RX5, "conflictsIn", "(II)I"⟩
abbrev cX5_digest : ByteArray := prog_1_method_26_code
def yX5_digest : MethodName := ⟨RX5, "digest", "()J"⟩
abbrev cX5_checkClient : ByteArray := prog_1_method_27_code
def yX5_checkClient : MethodName := ⟨RX5, "checkClient", "(I)V"⟩
abbrev cX5_checkFile : ByteArray := prog_1_method_28_code
def yX5_checkFile : MethodName := ⟨RX5, "checkFile", "(I)V"⟩
abbrev cX5_checkPlace : ByteArray := prog_1_method_29_code
def yX5_checkPlace : MethodName := ⟨RX5, "checkPlace", "(II)V"⟩
abbrev cX5_checkWhat : ByteArray := prog_1_method_30_code
def yX5_checkWhat : MethodName := ⟨RX5, "checkWhat", "(II)V"⟩
abbrev cX5_checkTicks : ByteArray := prog_1_method_31_code
def yX5_checkTicks : MethodName := ⟨RX5, "checkTicks", "(II)V"⟩
abbrev cX5_isFile : ByteArray := prog_1_method_32_code
def yX5_isFile : MethodName := ⟨RX5, "isFile", "(I)Z"⟩
def RJ9 : String := "java/lang/Math"
def TJ9 : u_T := fun k => match k with
  | _ => ("", "", "", false)
def tyJ9 : Nat → FieldType := fun k => match k with
  | _ => .int
abbrev wsJ90 : List Cond := u_ws RJ9 TJ9 0
theorem nmJ9 : ∀ a, a < 0 → ∀ b, b < 0 → a ≠ b → (TJ9 a).2.1 ≠ (TJ9 b).2.1 := by decide +kernel
theorem tyJ9_ok : ∀ k, k < 0 → parseFieldDescriptor (TJ9 k).2.2.1 = some (tyJ9 k) := by decide +kernel
abbrev cJ9_floorMod_7cf53 : ByteArray := prog_16_method_50_code
def yJ9_floorMod_7cf53 : MethodName := ⟨RJ9, "floorMod", "(II)I"⟩
abbrev cJ9_max_7cf53 : ByteArray := prog_16_method_65_code
def yJ9_max_7cf53 : MethodName := ⟨RJ9, "max", "(II)I"⟩
def RL : String := "IronbridgeCacheLaw"
abbrev cL_below : ByteArray := method_2_code
def yL_below : MethodName := ⟨RL, "below", "(II)I"⟩
abbrev cL_cell : ByteArray := method_3_code
def yL_cell : MethodName := ⟨RL, "cell", "([II)I"⟩
abbrev cL_law : ByteArray := code
def yL_law : MethodName := ⟨RL, "law", "([I)Z"⟩
abbrev cL_isTicked : ByteArray := method_5_code
def yL_isTicked : MethodName := ⟨RL, "isTicked", "(LIronbridgeCache;I)Z"⟩
abbrev cL_areClientsRight : ByteArray := method_6_code
def yL_areClientsRight : MethodName := ⟨RL, "areClientsRight", "(LIronbridgeCache;[IZ)Z"⟩
abbrev cL_areUsedRight : ByteArray := method_7_code
def yL_areUsedRight : MethodName := ⟨RL, "areUsedRight", "(LIronbridgeCache;II)Z"⟩
abbrev cL_isWayRight : ByteArray := method_8_code
def yL_isWayRight : MethodName := ⟨RL, "isWayRight", "(LIronbridgeCache;)Z"⟩
/-! method data: name, bytes, locals, what it answers -/
abbrev MD : Type := MethodName × ByteArray × Nat × Option FieldType
def mJ9_floorMod_7cf53 : MD := (yJ9_floorMod_7cf53, cJ9_floorMod_7cf53, 3, (some .int))
def mJ9_max_7cf53 : MD := (yJ9_max_7cf53, cJ9_max_7cf53, 2, (some .int))
def mL_areClientsRight : MD := (yL_areClientsRight, cL_areClientsRight, 8, (some .boolean))
def mL_areUsedRight : MD := (yL_areUsedRight, cL_areUsedRight, 6, (some .boolean))
def mL_below : MD := (yL_below, cL_below, 2, (some .int))
def mL_cell : MD := (yL_cell, cL_cell, 2, (some .int))
def mL_isTicked : MD := (yL_isTicked, cL_isTicked, 7, (some .boolean))
def mL_isWayRight : MD := (yL_isWayRight, cL_isWayRight, 3, (some .boolean))
def mX0_addToDigest : MD := (yX0_addToDigest, cX0_addToDigest, 8, (some .long))
def mX0_copyFrom : MD := (yX0_copyFrom, cX0_copyFrom, 3, none)
def mX0_cutLine : MD := (yX0_cutLine, cX0_cutLine, 2, none)
def mX0_endLeases : MD := (yX0_endLeases, cX0_endLeases, 2, none)
def mX0_init : MD := (yX0_init, cX0_init, 2, none)
def mX0_isClean : MD := (yX0_isClean, cX0_isClean, 2, (some .boolean))
def mX0_keepAside : MD := (yX0_keepAside, cX0_keepAside, 4, none)
def mX0_letGo : MD := (yX0_letGo, cX0_letGo, 4, none)
def mX0_longestDirty : MD := (yX0_longestDirty, cX0_longestDirty, 4, (some .int))
def mX0_makesRoom : MD := (yX0_makesRoom, cX0_makesRoom, 4, (some .boolean))
def mX0_placeOf : MD := (yX0_placeOf, cX0_placeOf, 3, (some .int))
def mX0_takeCall : MD := (yX0_takeCall, cX0_takeCall, 2, none)
def mX0_takeClash : MD := (yX0_takeClash, cX0_takeClash, 5, (some .boolean))
def mX0_takeGiven : MD := (yX0_takeGiven, cX0_takeGiven, 7, none)
def mX0_tell : MD := (yX0_tell, cX0_tell, 2, (some .int))
def mX0_use : MD := (yX0_use, cX0_use, 4, none)
def mX1_beGiven : MD := (yX1_beGiven, cX1_beGiven, 4, none)
def mX1_beStored : MD := (yX1_beStored, cX1_beStored, 4, none)
def mX1_copyFrom : MD := (yX1_copyFrom, cX1_copyFrom, 2, none)
def mX1_init : MD := (yX1_init, cX1_init, 1, none)
def mX1_isTrusted : MD := (yX1_isTrusted, cX1_isTrusted, 3, (some .boolean))
def mX1_putContent : MD := (yX1_putContent, cX1_putContent, 3, none)
def mX1_tell : MD := (yX1_tell, cX1_tell, 4, (some .int))
def mX2_addThingsToDigest : MD := (yX2_addThingsToDigest, cX2_addThingsToDigest, 9, (some .long))
def mX2_answer : MD := (yX2_answer, cX2_answer, 6, none)
def mX2_bring : MD := (yX2_bring, cX2_bring, 10, none)
def mX2_callOthers : MD := (yX2_callOthers, cX2_callOthers, 6, none)
def mX2_copyFrom : MD := (yX2_copyFrom, cX2_copyFrom, 3, none)
def mX2_init : MD := (yX2_init, cX2_init, 2, none)
def mX2_isCalm : MD := (yX2_isCalm, cX2_isCalm, 2, (some .boolean))
def mX2_isClient : MD := (yX2_isClient, cX2_isClient, 2, (some .boolean))
def mX2_join : MD := (yX2_join, cX2_join, 3, (some .int))
def mX2_lookAtFirst : MD := (yX2_lookAtFirst, cX2_lookAtFirst, 5, none)
def mX2_mendLine : MD := (yX2_mendLine, cX2_mendLine, 6, (some .int))
def mX2_passTick : MD := (yX2_passTick, cX2_passTick, 4, none)
def mX2_reach : MD := (yX2_reach, cX2_reach, 5, (some .boolean))
def mX2_send : MD := (yX2_send, cX2_send, 10, none)
def mX2_sendDirty : MD := (yX2_sendDirty, cX2_sendDirty, 7, (some .int))
def mX2_sendStore : MD := (yX2_sendStore, cX2_sendStore, 4, none)
def mX2_slotAt : MD := (yX2_slotAt, cX2_slotAt, 2, (some (.object "IronbridgeCache$Table")))
def mX2_staleCount : MD := (yX2_staleCount, cX2_staleCount, 5, (some .int))
def mX2_tellThing : MD := (yX2_tellThing, cX2_tellThing, 6, (some .int))
def mX2_thingCount : MD := (yX2_thingCount, cX2_thingCount, 3, (some .int))
def mX3_addRequest : MD := (yX3_addRequest, cX3_addRequest, 6, (some .int))
def mX3_copyFrom : MD := (yX3_copyFrom, cX3_copyFrom, 3, none)
def mX3_hasToWait : MD := (yX3_hasToWait, cX3_hasToWait, 5, (some .boolean))
def mX3_init : MD := (yX3_init, cX3_init, 1, none)
def mX3_isLeased : MD := (yX3_isLeased, cX3_isLeased, 3, (some .boolean))
def mX3_leasedSet : MD := (yX3_leasedSet, cX3_leasedSet, 4, (some .int))
def mX3_tell : MD := (yX3_tell, cX3_tell, 3, (some .int))
def mX4_addRow : MD := (yX4_addRow, cX4_addRow, 3, (some .int))
def mX4_copyFrom : MD := (yX4_copyFrom, cX4_copyFrom, 3, none)
def mX4_dropFirst : MD := (yX4_dropFirst, cX4_dropFirst, 2, none)
def mX4_get : MD := (yX4_get, cX4_get, 3, (some .int))
def mX4_init : MD := (yX4_init, cX4_init, 2, none)
def mX4_isCell : MD := (yX4_isCell, cX4_isCell, 3, (some .boolean))
def mX4_put : MD := (yX4_put, cX4_put, 4, none)
def mX5_addClient : MD := (yX5_addClient, cX5_addClient, 3, (some .int))
def mX5_calmIn : MD := (yX5_calmIn, cX5_calmIn, 3, (some .int))
def mX5_checkClient : MD := (yX5_checkClient, cX5_checkClient, 2, none)
def mX5_checkFile : MD := (yX5_checkFile, cX5_checkFile, 1, none)
def mX5_checkPlace : MD := (yX5_checkPlace, cX5_checkPlace, 2, none)
def mX5_checkTicks : MD := (yX5_checkTicks, cX5_checkTicks, 2, none)
def mX5_checkWhat : MD := (yX5_checkWhat, cX5_checkWhat, 2, none)
def mX5_clients : MD := (yX5_clients, cX5_clients, 1, (some .int))
def mX5_clock : MD := (yX5_clock, cX5_clock, 1, (some .int))
def mX5_conflictsIn : MD := (yX5_conflictsIn, cX5_conflictsIn, 4, (some .int))
def mX5_contentIn : MD := (yX5_contentIn, cX5_contentIn, 4, (some .int))
def mX5_cut : MD := (yX5_cut, cX5_cut, 3, (some .int))
def mX5_digest : MD := (yX5_digest, cX5_digest, 5, (some .long))
def mX5_flush : MD := (yX5_flush, cX5_flush, 2, (some .int))
def mX5_has : MD := (yX5_has, cX5_has, 5, (some .int))
def mX5_init : MD := (yX5_init, cX5_init, 1, none)
def mX5_isFile : MD := (yX5_isFile, cX5_isFile, 1, (some .boolean))
def mX5_luck : MD := (yX5_luck, cX5_luck, 4, (some .double))
def mX5_onTheWay : MD := (yX5_onTheWay, cX5_onTheWay, 1, (some .int))
def mX5_read : MD := (yX5_read, cX5_read, 3, (some .int))
def mX5_server : MD := (yX5_server, cX5_server, 3, (some .int))
def mX5_setRoom : MD := (yX5_setRoom, cX5_setRoom, 3, (some .int))
def mX5_setTerm : MD := (yX5_setTerm, cX5_setTerm, 4, (some .int))
def mX5_stale : MD := (yX5_stale, cX5_stale, 1, (some .int))
def mX5_tick : MD := (yX5_tick, cX5_tick, 3, (some .int))
def mX5_told : MD := (yX5_told, cX5_told, 3, (some .int))
def mX5_used : MD := (yX5_used, cX5_used, 4, (some .int))
def mX5_way : MD := (yX5_way, cX5_way, 3, (some .int))
def mX5_write : MD := (yX5_write, cX5_write, 4, (some .boolean))
def mL_law : MD := (yL_law, cL_law, 13, ret)
/-- the words of the tables that a caller can hand on -/
def Wall : List Cond := lw_tbl.filter goodWord
theorem Wall_good : ∀ w ∈ Wall, (w.onTables && w.keeps) = true ∨ ∃ ty, w = .arrayClass ty := fun w h => good_of_word (List.mem_filter.mp h).2
theorem Wall_tbl : ∀ w ∈ Wall, w ∈ lw_tbl := fun w h => (List.mem_filter.mp h).1
theorem inWall {w : Cond} (h : (decide (w ∈ lw_tbl) && goodWord w) = true) : w ∈ Wall := by
  simp only [Bool.and_eq_true, decide_eq_true_eq] at h
  exact List.mem_filter.mpr h
def wsM (M : MD) : List Cond := .code M.1 M.2.1 M.2.2.1 M.2.2.2 :: Wall
/-- links between nest mates, that the start gives -/
def nestF : List (String × Nat × String × String × String) := [("IronbridgeCache", 110, "IronbridgeCache$Net", "shelves", "[LIronbridgeCache$Shelf;"),
  ("IronbridgeCache", 144, "IronbridgeCache$Client", "isCut", "Z"),
  ("IronbridgeCache", 151, "IronbridgeCache$Client", "count", "I"),
  ("IronbridgeCache", 154, "IronbridgeCache$Client", "order", "[I"),
  ("IronbridgeCache", 162, "IronbridgeCache$Client", "hits", "I"),
  ("IronbridgeCache", 165, "IronbridgeCache$Client", "misses", "I"),
  ("IronbridgeCache", 179, "IronbridgeCache$Shelf", "content", "I"),
  ("IronbridgeCache", 180, "IronbridgeCache$Client", "conflicts", "I"),
  ("IronbridgeCache", 26, "IronbridgeCache$Net", "clientCount", "I"),
  ("IronbridgeCache", 41, "IronbridgeCache$Net", "term", "I"),
  ("IronbridgeCache", 44, "IronbridgeCache$Net", "lag", "I"),
  ("IronbridgeCache", 49, "IronbridgeCache$Net", "room", "I"),
  ("IronbridgeCache", 60, "IronbridgeCache$Net", "clients", "[LIronbridgeCache$Client;"),
  ("IronbridgeCache", 76, "IronbridgeCache$Client", "files", "[LIronbridgeCache$Held;"),
  ("IronbridgeCache", 80, "IronbridgeCache$Held", "content", "I"),
  ("IronbridgeCache", 87, "IronbridgeCache$Net", "clock", "I"),
  ("IronbridgeCache$Client", 107, "IronbridgeCache$Held", "dirtySince", "I"),
  ("IronbridgeCache$Client", 39, "IronbridgeCache$Held", "asks", "Z"),
  ("IronbridgeCache$Client", 42, "IronbridgeCache$Held", "sends", "Z"),
  ("IronbridgeCache$Client", 45, "IronbridgeCache$Held", "until", "I"),
  ("IronbridgeCache$Client", 55, "IronbridgeCache$Held", "isHeld", "Z"),
  ("IronbridgeCache$Client", 58, "IronbridgeCache$Held", "isDirty", "Z"),
  ("IronbridgeCache$Client", 84, "IronbridgeCache$Held", "version", "I"),
  ("IronbridgeCache$Client", 87, "IronbridgeCache$Held", "content", "I"),
  ("IronbridgeCache$Client", 94, "IronbridgeCache$Table", "rows", "I"),
  ("IronbridgeCache$Net", 109, "IronbridgeCache$Client", "hits", "I"),
  ("IronbridgeCache$Net", 115, "IronbridgeCache$Client", "misses", "I"),
  ("IronbridgeCache$Net", 118, "IronbridgeCache$Held", "asks", "Z"),
  ("IronbridgeCache$Net", 131, "IronbridgeCache$Held", "isDirty", "Z"),
  ("IronbridgeCache$Net", 134, "IronbridgeCache$Held", "dirtySince", "I"),
  ("IronbridgeCache$Net", 154, "IronbridgeCache$Client", "lost", "I"),
  ("IronbridgeCache$Net", 161, "IronbridgeCache$Shelf", "until", "[I"),
  ("IronbridgeCache$Net", 179, "IronbridgeCache$Shelf", "requests", "LIronbridgeCache$Table;"),
  ("IronbridgeCache$Net", 193, "IronbridgeCache$Shelf", "isFirstSeen", "Z"),
  ("IronbridgeCache$Net", 202, "IronbridgeCache$Shelf", "version", "I"),
  ("IronbridgeCache$Net", 203, "IronbridgeCache$Shelf", "content", "I"),
  ("IronbridgeCache$Net", 47, "IronbridgeCache$Client", "delay", "I"),
  ("IronbridgeCache$Net", 50, "IronbridgeCache$Client", "habit", "I"),
  ("IronbridgeCache$Net", 59, "IronbridgeCache$Table", "rows", "I"),
  ("IronbridgeCache$Net", 82, "IronbridgeCache$Client", "isCut", "Z"),
  ("IronbridgeCache$Net", 86, "IronbridgeCache$Client", "files", "[LIronbridgeCache$Held;"),
  ("IronbridgeCache$Net", 90, "IronbridgeCache$Held", "sends", "Z"),
  ("IronbridgeCache$Net", 95, "IronbridgeCache$Held", "content", "I"),
  ("IronbridgeCache$Net", 98, "IronbridgeCache$Held", "version", "I"),
  ("IronbridgeCache$Shelf", 47, "IronbridgeCache$Table", "rows", "I")]
def nestM : List (String × Nat × MethodName) := [("IronbridgeCache$Client", 34, ⟨"IronbridgeCache$Held", "<init>", "()V"⟩),
  ("IronbridgeCache$Net", 151, ⟨"IronbridgeCache", "isFile", "(I)Z"⟩),
  ("IronbridgeCache$Net", 40, ⟨"IronbridgeCache$Shelf", "<init>", "()V"⟩)]
def nestL : List Cond := nestF.map (fun q => .fieldLinkNest q.1 q.2.1 q.2.2.1 q.2.2.2.1 q.2.2.2.2 "IronbridgeCache") ++ nestM.map (fun q => .methodLinkNest q.1 q.2.1 q.2.2 "IronbridgeCache")
theorem nestL_tables : ∀ w ∈ nestL, w.onTables = true := by
  intro w h
  rcases List.mem_append.mp h with h | h <;> obtain ⟨q, -, rfl⟩ := List.mem_map.mp h <;> rfl
theorem nest_same {u U : State} (hvm : u.vm = U.vm) (h : ∀ w ∈ nestL, va_Nw w u) : ∀ w ∈ nestL, va_Nw w U := fun w hw => (h w hw).same (nestL_tables w hw) hvm
theorem nest_warm {s U : State} (hW : s.WarmedH U.vm) (h : ∀ w ∈ nestL, va_Nw w s) : ∀ w ∈ nestL, va_Nw w U := by
  intro w hw
  have h1 := h w hw
  rcases List.mem_append.mp hw with hw | hw <;> obtain ⟨q, -, rfl⟩ := List.mem_map.mp hw
  · exact h1.warmF hW
  · exact h1.warmM hW
abbrev vwCl : List vw_C := [(RX0, TX0, 12), (RX1, TX1, 8), (RX2, TX2, 8), (RX3, TX3, 5), (RX4, TX4, 3), (RX5, TX5, 2)]
theorem inW0 : ∀ w ∈ wsX00, w ∈ Wall := fun w h => inWall (List.all_eq_true.mp (show wsX00.all (fun w => decide (w ∈ lw_tbl) && goodWord w) = true by decide +kernel) w h)
theorem inW1 : ∀ w ∈ wsX10, w ∈ Wall := fun w h => inWall (List.all_eq_true.mp (show wsX10.all (fun w => decide (w ∈ lw_tbl) && goodWord w) = true by decide +kernel) w h)
theorem inW2 : ∀ w ∈ wsX20, w ∈ Wall := fun w h => inWall (List.all_eq_true.mp (show wsX20.all (fun w => decide (w ∈ lw_tbl) && goodWord w) = true by decide +kernel) w h)
theorem inW3 : ∀ w ∈ wsX30, w ∈ Wall := fun w h => inWall (List.all_eq_true.mp (show wsX30.all (fun w => decide (w ∈ lw_tbl) && goodWord w) = true by decide +kernel) w h)
theorem inW4 : ∀ w ∈ wsX40, w ∈ Wall := fun w h => inWall (List.all_eq_true.mp (show wsX40.all (fun w => decide (w ∈ lw_tbl) && goodWord w) = true by decide +kernel) w h)
theorem inW5 : ∀ w ∈ wsX50, w ∈ Wall := fun w h => inWall (List.all_eq_true.mp (show wsX50.all (fun w => decide (w ∈ lw_tbl) && goodWord w) = true by decide +kernel) w h)
end
section
theorem dX0_init_0 : decode cX0_init 0 = .ok (.aload_n 0, 1) := by decide +kernel
theorem dX0_init_1 : decode cX0_init 1 = .ok (.invokespecial 3, 3) := by decide +kernel
theorem dX0_init_4 : decode cX0_init 4 = .ok (.aload_n 0, 1) := by decide +kernel
theorem dX0_init_5 : decode cX0_init 5 = .ok (.bipush 12, 2) := by decide +kernel
theorem dX0_init_7 : decode cX0_init 7 = .ok (.anewarray 9, 3) := by decide +kernel
theorem dX0_init_10 : decode cX0_init 10 = .ok (.putfield 11, 3) := by decide +kernel
theorem dX0_init_13 : decode cX0_init 13 = .ok (.aload_n 0, 1) := by decide +kernel
theorem dX0_init_14 : decode cX0_init 14 = .ok (.bipush 12, 2) := by decide +kernel
theorem dX0_init_16 : decode cX0_init 16 = .ok (.newarray .int, 2) := by decide +kernel
theorem dX0_init_18 : decode cX0_init 18 = .ok (.putfield 17, 3) := by decide +kernel
theorem dX0_init_21 : decode cX0_init 21 = .ok (.aload_n 0, 1) := by decide +kernel
theorem dX0_init_22 : decode cX0_init 22 = .ok (.new 21, 3) := by decide +kernel
theorem dX0_init_25 : decode cX0_init 25 = .ok (.dup, 1) := by decide +kernel
theorem dX0_init_26 : decode cX0_init 26 = .ok (.iconst 2, 1) := by decide +kernel
theorem dX0_init_27 : decode cX0_init 27 = .ok (.invokespecial 23, 3) := by decide +kernel
theorem dX0_init_30 : decode cX0_init 30 = .ok (.putfield 26, 3) := by decide +kernel
theorem dX0_init_33 : decode cX0_init 33 = .ok (.aload_n 0, 1) := by decide +kernel
theorem dX0_init_34 : decode cX0_init 34 = .ok (.iconst 1, 1) := by decide +kernel
theorem dX0_init_35 : decode cX0_init 35 = .ok (.putfield 30, 3) := by decide +kernel
theorem dX0_init_38 : decode cX0_init 38 = .ok (.iconst 0, 1) := by decide +kernel
theorem dX0_init_39 : decode cX0_init 39 = .ok (.istore_n 1, 1) := by decide +kernel
theorem dX0_init_40 : decode cX0_init 40 = .ok (.iload_n 1, 1) := by decide +kernel
theorem dX0_init_41 : decode cX0_init 41 = .ok (.bipush 12, 2) := by decide +kernel
theorem dX0_init_43 : decode cX0_init 43 = .ok (.if_icmp .ge 22, 3) := by decide +kernel
theorem dX0_init_46 : decode cX0_init 46 = .ok (.aload_n 0, 1) := by decide +kernel
theorem dX0_init_47 : decode cX0_init 47 = .ok (.getfield 11, 3) := by decide +kernel
theorem dX0_init_50 : decode cX0_init 50 = .ok (.iload_n 1, 1) := by decide +kernel
theorem dX0_init_51 : decode cX0_init 51 = .ok (.new 9, 3) := by decide +kernel
theorem dX0_init_54 : decode cX0_init 54 = .ok (.dup, 1) := by decide +kernel
theorem dX0_init_55 : decode cX0_init 55 = .ok (.invokespecial 34, 3) := by decide +kernel
theorem dX0_init_58 : decode cX0_init 58 = .ok (.aastore, 1) := by decide +kernel
theorem dX0_init_59 : decode cX0_init 59 = .ok (.iinc 1 1, 3) := by decide +kernel
theorem dX0_init_62 : decode cX0_init 62 = .ok (.goto (-22), 3) := by decide +kernel
theorem dX0_init_65 : decode cX0_init 65 = .ok (.return_, 1) := by decide +kernel
theorem dX0_cutLine_0 : decode cX0_cutLine 0 = .ok (.aload_n 0, 1) := by decide +kernel
theorem dX0_cutLine_1 : decode cX0_cutLine 1 = .ok (.iconst 1, 1) := by decide +kernel
theorem dX0_cutLine_2 : decode cX0_cutLine 2 = .ok (.putfield 35, 3) := by decide +kernel
theorem dX0_cutLine_5 : decode cX0_cutLine 5 = .ok (.iconst 0, 1) := by decide +kernel
theorem dX0_cutLine_6 : decode cX0_cutLine 6 = .ok (.istore_n 1, 1) := by decide +kernel
theorem dX0_cutLine_7 : decode cX0_cutLine 7 = .ok (.iload_n 1, 1) := by decide +kernel
theorem dX0_cutLine_8 : decode cX0_cutLine 8 = .ok (.bipush 12, 2) := by decide +kernel
theorem dX0_cutLine_10 : decode cX0_cutLine 10 = .ok (.if_icmp .ge 29, 3) := by decide +kernel
theorem dX0_cutLine_13 : decode cX0_cutLine 13 = .ok (.aload_n 0, 1) := by decide +kernel
theorem dX0_cutLine_14 : decode cX0_cutLine 14 = .ok (.getfield 11, 3) := by decide +kernel
theorem dX0_cutLine_17 : decode cX0_cutLine 17 = .ok (.iload_n 1, 1) := by decide +kernel
theorem dX0_cutLine_18 : decode cX0_cutLine 18 = .ok (.aaload, 1) := by decide +kernel
theorem dX0_cutLine_19 : decode cX0_cutLine 19 = .ok (.iconst 0, 1) := by decide +kernel
theorem dX0_cutLine_20 : decode cX0_cutLine 20 = .ok (.putfield 39, 3) := by decide +kernel
theorem dX0_cutLine_23 : decode cX0_cutLine 23 = .ok (.aload_n 0, 1) := by decide +kernel
theorem dX0_cutLine_24 : decode cX0_cutLine 24 = .ok (.getfield 11, 3) := by decide +kernel
theorem dX0_cutLine_27 : decode cX0_cutLine 27 = .ok (.iload_n 1, 1) := by decide +kernel
theorem dX0_cutLine_28 : decode cX0_cutLine 28 = .ok (.aaload, 1) := by decide +kernel
theorem dX0_cutLine_29 : decode cX0_cutLine 29 = .ok (.iconst 0, 1) := by decide +kernel
theorem dX0_cutLine_30 : decode cX0_cutLine 30 = .ok (.putfield 42, 3) := by decide +kernel
theorem dX0_cutLine_33 : decode cX0_cutLine 33 = .ok (.iinc 1 1, 3) := by decide +kernel
theorem dX0_cutLine_36 : decode cX0_cutLine 36 = .ok (.goto (-29), 3) := by decide +kernel
theorem dX0_cutLine_39 : decode cX0_cutLine 39 = .ok (.return_, 1) := by decide +kernel
theorem dX0_endLeases_0 : decode cX0_endLeases 0 = .ok (.iconst 0, 1) := by decide +kernel
theorem dX0_endLeases_1 : decode cX0_endLeases 1 = .ok (.istore_n 1, 1) := by decide +kernel
theorem dX0_endLeases_2 : decode cX0_endLeases 2 = .ok (.iload_n 1, 1) := by decide +kernel
theorem dX0_endLeases_3 : decode cX0_endLeases 3 = .ok (.bipush 12, 2) := by decide +kernel
theorem dX0_endLeases_5 : decode cX0_endLeases 5 = .ok (.if_icmp .ge 19, 3) := by decide +kernel
theorem dX0_endLeases_8 : decode cX0_endLeases 8 = .ok (.aload_n 0, 1) := by decide +kernel
theorem dX0_endLeases_9 : decode cX0_endLeases 9 = .ok (.getfield 11, 3) := by decide +kernel
theorem dX0_endLeases_12 : decode cX0_endLeases 12 = .ok (.iload_n 1, 1) := by decide +kernel
theorem dX0_endLeases_13 : decode cX0_endLeases 13 = .ok (.aaload, 1) := by decide +kernel
theorem dX0_endLeases_14 : decode cX0_endLeases 14 = .ok (.iconst (-1), 1) := by decide +kernel
theorem dX0_endLeases_15 : decode cX0_endLeases 15 = .ok (.putfield 45, 3) := by decide +kernel
theorem dX0_endLeases_18 : decode cX0_endLeases 18 = .ok (.iinc 1 1, 3) := by decide +kernel
theorem dX0_endLeases_21 : decode cX0_endLeases 21 = .ok (.goto (-19), 3) := by decide +kernel
theorem dX0_endLeases_24 : decode cX0_endLeases 24 = .ok (.return_, 1) := by decide +kernel
theorem dX0_use_0 : decode cX0_use 0 = .ok (.aload_n 0, 1) := by decide +kernel
theorem dX0_use_1 : decode cX0_use 1 = .ok (.iload_n 1, 1) := by decide +kernel
theorem dX0_use_2 : decode cX0_use 2 = .ok (.invokevirtual 48, 3) := by decide +kernel
theorem dX0_use_5 : decode cX0_use 5 = .ok (.istore_n 2, 1) := by decide +kernel
theorem dX0_use_6 : decode cX0_use 6 = .ok (.iload_n 2, 1) := by decide +kernel
theorem dX0_use_7 : decode cX0_use 7 = .ok (.iconst (-1), 1) := by decide +kernel
theorem dX0_use_8 : decode cX0_use 8 = .ok (.if_icmp .ne 28, 3) := by decide +kernel
theorem dX0_use_11 : decode cX0_use 11 = .ok (.aload_n 0, 1) := by decide +kernel
theorem dX0_use_12 : decode cX0_use 12 = .ok (.getfield 52, 3) := by decide +kernel
theorem dX0_use_15 : decode cX0_use 15 = .ok (.bipush 12, 2) := by decide +kernel
theorem dX0_use_17 : decode cX0_use 17 = .ok (.if_icmp .lt 4, 3) := by decide +kernel
theorem dX0_use_20 : decode cX0_use 20 = .ok (.return_, 1) := by decide +kernel
theorem dX0_use_21 : decode cX0_use 21 = .ok (.aload_n 0, 1) := by decide +kernel
theorem dX0_use_22 : decode cX0_use 22 = .ok (.getfield 52, 3) := by decide +kernel
theorem dX0_use_25 : decode cX0_use 25 = .ok (.istore_n 2, 1) := by decide +kernel
theorem dX0_use_26 : decode cX0_use 26 = .ok (.aload_n 0, 1) := by decide +kernel
theorem dX0_use_27 : decode cX0_use 27 = .ok (.dup, 1) := by decide +kernel
theorem dX0_use_28 : decode cX0_use 28 = .ok (.getfield 52, 3) := by decide +kernel
theorem dX0_use_31 : decode cX0_use 31 = .ok (.iconst 1, 1) := by decide +kernel
theorem dX0_use_32 : decode cX0_use 32 = .ok (.iadd, 1) := by decide +kernel
theorem dX0_use_33 : decode cX0_use 33 = .ok (.putfield 52, 3) := by decide +kernel
theorem dX0_use_36 : decode cX0_use 36 = .ok (.iload_n 2, 1) := by decide +kernel
theorem dX0_use_37 : decode cX0_use 37 = .ok (.istore_n 3, 1) := by decide +kernel
theorem dX0_use_38 : decode cX0_use 38 = .ok (.iload_n 3, 1) := by decide +kernel
theorem dX0_use_39 : decode cX0_use 39 = .ok (.ifCond .le 23, 3) := by decide +kernel
theorem dX0_use_42 : decode cX0_use 42 = .ok (.aload_n 0, 1) := by decide +kernel
theorem dX0_use_43 : decode cX0_use 43 = .ok (.getfield 17, 3) := by decide +kernel
theorem dX0_use_46 : decode cX0_use 46 = .ok (.iload_n 3, 1) := by decide +kernel
theorem dX0_use_47 : decode cX0_use 47 = .ok (.aload_n 0, 1) := by decide +kernel
theorem dX0_use_48 : decode cX0_use 48 = .ok (.getfield 17, 3) := by decide +kernel
theorem dX0_use_51 : decode cX0_use 51 = .ok (.iload_n 3, 1) := by decide +kernel
theorem dX0_use_52 : decode cX0_use 52 = .ok (.iconst 1, 1) := by decide +kernel
theorem dX0_use_53 : decode cX0_use 53 = .ok (.isub, 1) := by decide +kernel
theorem dX0_use_54 : decode cX0_use 54 = .ok (.iaload, 1) := by decide +kernel
theorem dX0_use_55 : decode cX0_use 55 = .ok (.iastore, 1) := by decide +kernel
theorem dX0_use_56 : decode cX0_use 56 = .ok (.iinc 3 (-1), 3) := by decide +kernel
theorem dX0_use_59 : decode cX0_use 59 = .ok (.goto (-21), 3) := by decide +kernel
theorem dX0_use_62 : decode cX0_use 62 = .ok (.aload_n 0, 1) := by decide +kernel
theorem dX0_use_63 : decode cX0_use 63 = .ok (.getfield 17, 3) := by decide +kernel
theorem dX0_use_66 : decode cX0_use 66 = .ok (.iconst 0, 1) := by decide +kernel
theorem dX0_use_67 : decode cX0_use 67 = .ok (.iload_n 1, 1) := by decide +kernel
theorem dX0_use_68 : decode cX0_use 68 = .ok (.iastore, 1) := by decide +kernel
theorem dX0_use_69 : decode cX0_use 69 = .ok (.return_, 1) := by decide +kernel
theorem dX0_placeOf_0 : decode cX0_placeOf 0 = .ok (.iconst 0, 1) := by decide +kernel
theorem dX0_placeOf_1 : decode cX0_placeOf 1 = .ok (.istore_n 2, 1) := by decide +kernel
theorem dX0_placeOf_2 : decode cX0_placeOf 2 = .ok (.iload_n 2, 1) := by decide +kernel
theorem dX0_placeOf_3 : decode cX0_placeOf 3 = .ok (.aload_n 0, 1) := by decide +kernel
theorem dX0_placeOf_4 : decode cX0_placeOf 4 = .ok (.getfield 52, 3) := by decide +kernel
theorem dX0_placeOf_7 : decode cX0_placeOf 7 = .ok (.if_icmp .ge 21, 3) := by decide +kernel
theorem dX0_placeOf_10 : decode cX0_placeOf 10 = .ok (.aload_n 0, 1) := by decide +kernel
theorem dX0_placeOf_11 : decode cX0_placeOf 11 = .ok (.getfield 17, 3) := by decide +kernel
theorem dX0_placeOf_14 : decode cX0_placeOf 14 = .ok (.iload_n 2, 1) := by decide +kernel
theorem dX0_placeOf_15 : decode cX0_placeOf 15 = .ok (.iaload, 1) := by decide +kernel
theorem dX0_placeOf_16 : decode cX0_placeOf 16 = .ok (.iload_n 1, 1) := by decide +kernel
theorem dX0_placeOf_17 : decode cX0_placeOf 17 = .ok (.if_icmp .ne 5, 3) := by decide +kernel
theorem dX0_placeOf_20 : decode cX0_placeOf 20 = .ok (.iload_n 2, 1) := by decide +kernel
theorem dX0_placeOf_21 : decode cX0_placeOf 21 = .ok (.ireturn, 1) := by decide +kernel
theorem dX0_placeOf_22 : decode cX0_placeOf 22 = .ok (.iinc 2 1, 3) := by decide +kernel
theorem dX0_placeOf_25 : decode cX0_placeOf 25 = .ok (.goto (-23), 3) := by decide +kernel
theorem dX0_placeOf_28 : decode cX0_placeOf 28 = .ok (.iconst (-1), 1) := by decide +kernel
theorem dX0_placeOf_29 : decode cX0_placeOf 29 = .ok (.ireturn, 1) := by decide +kernel
theorem dX0_letGo_0 : decode cX0_letGo 0 = .ok (.aload_n 0, 1) := by decide +kernel
theorem dX0_letGo_1 : decode cX0_letGo 1 = .ok (.iload_n 1, 1) := by decide +kernel
theorem dX0_letGo_2 : decode cX0_letGo 2 = .ok (.invokevirtual 48, 3) := by decide +kernel
theorem dX0_letGo_5 : decode cX0_letGo 5 = .ok (.istore_n 2, 1) := by decide +kernel
theorem dX0_letGo_6 : decode cX0_letGo 6 = .ok (.iload_n 2, 1) := by decide +kernel
theorem dX0_letGo_7 : decode cX0_letGo 7 = .ok (.iconst (-1), 1) := by decide +kernel
theorem dX0_letGo_8 : decode cX0_letGo 8 = .ok (.if_icmp .ne 4, 3) := by decide +kernel
theorem dX0_letGo_11 : decode cX0_letGo 11 = .ok (.return_, 1) := by decide +kernel
theorem dX0_letGo_12 : decode cX0_letGo 12 = .ok (.aload_n 0, 1) := by decide +kernel
theorem dX0_letGo_13 : decode cX0_letGo 13 = .ok (.dup, 1) := by decide +kernel
theorem dX0_letGo_14 : decode cX0_letGo 14 = .ok (.getfield 52, 3) := by decide +kernel
theorem dX0_letGo_17 : decode cX0_letGo 17 = .ok (.iconst 1, 1) := by decide +kernel
theorem dX0_letGo_18 : decode cX0_letGo 18 = .ok (.isub, 1) := by decide +kernel
theorem dX0_letGo_19 : decode cX0_letGo 19 = .ok (.putfield 52, 3) := by decide +kernel
theorem dX0_letGo_22 : decode cX0_letGo 22 = .ok (.iload_n 2, 1) := by decide +kernel
theorem dX0_letGo_23 : decode cX0_letGo 23 = .ok (.istore_n 3, 1) := by decide +kernel
theorem dX0_letGo_24 : decode cX0_letGo 24 = .ok (.iload_n 3, 1) := by decide +kernel
theorem dX0_letGo_25 : decode cX0_letGo 25 = .ok (.aload_n 0, 1) := by decide +kernel
theorem dX0_letGo_26 : decode cX0_letGo 26 = .ok (.getfield 52, 3) := by decide +kernel
theorem dX0_letGo_29 : decode cX0_letGo 29 = .ok (.if_icmp .ge 23, 3) := by decide +kernel
theorem dX0_letGo_32 : decode cX0_letGo 32 = .ok (.aload_n 0, 1) := by decide +kernel
theorem dX0_letGo_33 : decode cX0_letGo 33 = .ok (.getfield 17, 3) := by decide +kernel
theorem dX0_letGo_36 : decode cX0_letGo 36 = .ok (.iload_n 3, 1) := by decide +kernel
theorem dX0_letGo_37 : decode cX0_letGo 37 = .ok (.aload_n 0, 1) := by decide +kernel
theorem dX0_letGo_38 : decode cX0_letGo 38 = .ok (.getfield 17, 3) := by decide +kernel
theorem dX0_letGo_41 : decode cX0_letGo 41 = .ok (.iload_n 3, 1) := by decide +kernel
theorem dX0_letGo_42 : decode cX0_letGo 42 = .ok (.iconst 1, 1) := by decide +kernel
theorem dX0_letGo_43 : decode cX0_letGo 43 = .ok (.iadd, 1) := by decide +kernel
theorem dX0_letGo_44 : decode cX0_letGo 44 = .ok (.iaload, 1) := by decide +kernel
theorem dX0_letGo_45 : decode cX0_letGo 45 = .ok (.iastore, 1) := by decide +kernel
theorem dX0_letGo_46 : decode cX0_letGo 46 = .ok (.iinc 3 1, 3) := by decide +kernel
theorem dX0_letGo_49 : decode cX0_letGo 49 = .ok (.goto (-25), 3) := by decide +kernel
theorem dX0_letGo_52 : decode cX0_letGo 52 = .ok (.aload_n 0, 1) := by decide +kernel
theorem dX0_letGo_53 : decode cX0_letGo 53 = .ok (.getfield 11, 3) := by decide +kernel
theorem dX0_letGo_56 : decode cX0_letGo 56 = .ok (.iload_n 1, 1) := by decide +kernel
theorem dX0_letGo_57 : decode cX0_letGo 57 = .ok (.aaload, 1) := by decide +kernel
theorem dX0_letGo_58 : decode cX0_letGo 58 = .ok (.iconst 0, 1) := by decide +kernel
theorem dX0_letGo_59 : decode cX0_letGo 59 = .ok (.putfield 55, 3) := by decide +kernel
theorem dX0_letGo_62 : decode cX0_letGo 62 = .ok (.aload_n 0, 1) := by decide +kernel
theorem dX0_letGo_63 : decode cX0_letGo 63 = .ok (.getfield 11, 3) := by decide +kernel
theorem dX0_letGo_66 : decode cX0_letGo 66 = .ok (.iload_n 1, 1) := by decide +kernel
theorem dX0_letGo_67 : decode cX0_letGo 67 = .ok (.aaload, 1) := by decide +kernel
theorem dX0_letGo_68 : decode cX0_letGo 68 = .ok (.iconst (-1), 1) := by decide +kernel
theorem dX0_letGo_69 : decode cX0_letGo 69 = .ok (.putfield 45, 3) := by decide +kernel
theorem dX0_letGo_72 : decode cX0_letGo 72 = .ok (.return_, 1) := by decide +kernel
theorem dX0_takeGiven_0 : decode cX0_takeGiven 0 = .ok (.aload_n 0, 1) := by decide +kernel
theorem dX0_takeGiven_1 : decode cX0_takeGiven 1 = .ok (.getfield 11, 3) := by decide +kernel
theorem dX0_takeGiven_4 : decode cX0_takeGiven 4 = .ok (.iload_n 1, 1) := by decide +kernel
theorem dX0_takeGiven_5 : decode cX0_takeGiven 5 = .ok (.aaload, 1) := by decide +kernel
theorem dX0_takeGiven_6 : decode cX0_takeGiven 6 = .ok (.astore 6, 2) := by decide +kernel
theorem dX0_takeGiven_8 : decode cX0_takeGiven 8 = .ok (.aload 6, 2) := by decide +kernel
theorem dX0_takeGiven_10 : decode cX0_takeGiven 10 = .ok (.iconst 0, 1) := by decide +kernel
theorem dX0_takeGiven_11 : decode cX0_takeGiven 11 = .ok (.putfield 39, 3) := by decide +kernel
theorem dX0_takeGiven_14 : decode cX0_takeGiven 14 = .ok (.aload 6, 2) := by decide +kernel
theorem dX0_takeGiven_16 : decode cX0_takeGiven 16 = .ok (.getfield 58, 3) := by decide +kernel
theorem dX0_takeGiven_19 : decode cX0_takeGiven 19 = .ok (.ifCond .ne 20, 3) := by decide +kernel
theorem dX0_takeGiven_22 : decode cX0_takeGiven 22 = .ok (.aload 6, 2) := by decide +kernel
theorem dX0_takeGiven_24 : decode cX0_takeGiven 24 = .ok (.getfield 55, 3) := by decide +kernel
theorem dX0_takeGiven_27 : decode cX0_takeGiven 27 = .ok (.ifCond .ne 13, 3) := by decide +kernel
theorem dX0_takeGiven_30 : decode cX0_takeGiven 30 = .ok (.aload_n 0, 1) := by decide +kernel
theorem dX0_takeGiven_31 : decode cX0_takeGiven 31 = .ok (.iload 5, 2) := by decide +kernel
theorem dX0_takeGiven_33 : decode cX0_takeGiven 33 = .ok (.invokevirtual 61, 3) := by decide +kernel
theorem dX0_takeGiven_36 : decode cX0_takeGiven 36 = .ok (.ifCond .ne 4, 3) := by decide +kernel
theorem dX0_takeGiven_39 : decode cX0_takeGiven 39 = .ok (.return_, 1) := by decide +kernel
theorem dX0_takeGiven_40 : decode cX0_takeGiven 40 = .ok (.aload 6, 2) := by decide +kernel
theorem dX0_takeGiven_42 : decode cX0_takeGiven 42 = .ok (.iload_n 2, 1) := by decide +kernel
theorem dX0_takeGiven_43 : decode cX0_takeGiven 43 = .ok (.iload_n 3, 1) := by decide +kernel
theorem dX0_takeGiven_44 : decode cX0_takeGiven 44 = .ok (.iload 4, 2) := by decide +kernel
theorem dX0_takeGiven_46 : decode cX0_takeGiven 46 = .ok (.invokevirtual 65, 3) := by decide +kernel
theorem dX0_takeGiven_49 : decode cX0_takeGiven 49 = .ok (.aload_n 0, 1) := by decide +kernel
theorem dX0_takeGiven_50 : decode cX0_takeGiven 50 = .ok (.iload_n 1, 1) := by decide +kernel
theorem dX0_takeGiven_51 : decode cX0_takeGiven 51 = .ok (.invokevirtual 69, 3) := by decide +kernel
theorem dX0_takeGiven_54 : decode cX0_takeGiven 54 = .ok (.return_, 1) := by decide +kernel
theorem dX0_makesRoom_0 : decode cX0_makesRoom 0 = .ok (.aload_n 0, 1) := by decide +kernel
theorem dX0_makesRoom_1 : decode cX0_makesRoom 1 = .ok (.getfield 52, 3) := by decide +kernel
theorem dX0_makesRoom_4 : decode cX0_makesRoom 4 = .ok (.iconst 1, 1) := by decide +kernel
theorem dX0_makesRoom_5 : decode cX0_makesRoom 5 = .ok (.isub, 1) := by decide +kernel
theorem dX0_makesRoom_6 : decode cX0_makesRoom 6 = .ok (.istore_n 2, 1) := by decide +kernel
theorem dX0_makesRoom_7 : decode cX0_makesRoom 7 = .ok (.iload_n 2, 1) := by decide +kernel
theorem dX0_makesRoom_8 : decode cX0_makesRoom 8 = .ok (.ifCond .lt 41, 3) := by decide +kernel
theorem dX0_makesRoom_11 : decode cX0_makesRoom 11 = .ok (.aload_n 0, 1) := by decide +kernel
theorem dX0_makesRoom_12 : decode cX0_makesRoom 12 = .ok (.getfield 52, 3) := by decide +kernel
theorem dX0_makesRoom_15 : decode cX0_makesRoom 15 = .ok (.iload_n 1, 1) := by decide +kernel
theorem dX0_makesRoom_16 : decode cX0_makesRoom 16 = .ok (.if_icmp .lt 33, 3) := by decide +kernel
theorem dX0_makesRoom_19 : decode cX0_makesRoom 19 = .ok (.aload_n 0, 1) := by decide +kernel
theorem dX0_makesRoom_20 : decode cX0_makesRoom 20 = .ok (.getfield 17, 3) := by decide +kernel
theorem dX0_makesRoom_23 : decode cX0_makesRoom 23 = .ok (.iload_n 2, 1) := by decide +kernel
theorem dX0_makesRoom_24 : decode cX0_makesRoom 24 = .ok (.iaload, 1) := by decide +kernel
theorem dX0_makesRoom_25 : decode cX0_makesRoom 25 = .ok (.istore_n 3, 1) := by decide +kernel
theorem dX0_makesRoom_26 : decode cX0_makesRoom 26 = .ok (.aload_n 0, 1) := by decide +kernel
theorem dX0_makesRoom_27 : decode cX0_makesRoom 27 = .ok (.getfield 11, 3) := by decide +kernel
theorem dX0_makesRoom_30 : decode cX0_makesRoom 30 = .ok (.iload_n 3, 1) := by decide +kernel
theorem dX0_makesRoom_31 : decode cX0_makesRoom 31 = .ok (.aaload, 1) := by decide +kernel
theorem dX0_makesRoom_32 : decode cX0_makesRoom 32 = .ok (.getfield 58, 3) := by decide +kernel
theorem dX0_makesRoom_35 : decode cX0_makesRoom 35 = .ok (.ifCond .ne 8, 3) := by decide +kernel
theorem dX0_makesRoom_38 : decode cX0_makesRoom 38 = .ok (.aload_n 0, 1) := by decide +kernel
theorem dX0_makesRoom_39 : decode cX0_makesRoom 39 = .ok (.iload_n 3, 1) := by decide +kernel
theorem dX0_makesRoom_40 : decode cX0_makesRoom 40 = .ok (.invokevirtual 72, 3) := by decide +kernel
theorem dX0_makesRoom_43 : decode cX0_makesRoom 43 = .ok (.iinc 2 (-1), 3) := by decide +kernel
theorem dX0_makesRoom_46 : decode cX0_makesRoom 46 = .ok (.goto (-39), 3) := by decide +kernel
theorem dX0_makesRoom_49 : decode cX0_makesRoom 49 = .ok (.aload_n 0, 1) := by decide +kernel
theorem dX0_makesRoom_50 : decode cX0_makesRoom 50 = .ok (.getfield 52, 3) := by decide +kernel
theorem dX0_makesRoom_53 : decode cX0_makesRoom 53 = .ok (.iload_n 1, 1) := by decide +kernel
theorem dX0_makesRoom_54 : decode cX0_makesRoom 54 = .ok (.if_icmp .ge 7, 3) := by decide +kernel
theorem dX0_makesRoom_57 : decode cX0_makesRoom 57 = .ok (.iconst 1, 1) := by decide +kernel
theorem dX0_makesRoom_58 : decode cX0_makesRoom 58 = .ok (.goto 4, 3) := by decide +kernel
theorem dX0_makesRoom_61 : decode cX0_makesRoom 61 = .ok (.iconst 0, 1) := by decide +kernel
theorem dX0_makesRoom_62 : decode cX0_makesRoom 62 = .ok (.ireturn, 1) := by decide +kernel
theorem dX0_takeCall_0 : decode cX0_takeCall 0 = .ok (.aload_n 0, 1) := by decide +kernel
theorem dX0_takeCall_1 : decode cX0_takeCall 1 = .ok (.dup, 1) := by decide +kernel
theorem dX0_takeCall_2 : decode cX0_takeCall 2 = .ok (.getfield 75, 3) := by decide +kernel
theorem dX0_takeCall_5 : decode cX0_takeCall 5 = .ok (.iconst 1, 1) := by decide +kernel
theorem dX0_takeCall_6 : decode cX0_takeCall 6 = .ok (.iadd, 1) := by decide +kernel
theorem dX0_takeCall_7 : decode cX0_takeCall 7 = .ok (.putfield 75, 3) := by decide +kernel
theorem dX0_takeCall_10 : decode cX0_takeCall 10 = .ok (.aload_n 0, 1) := by decide +kernel
theorem dX0_takeCall_11 : decode cX0_takeCall 11 = .ok (.getfield 11, 3) := by decide +kernel
theorem dX0_takeCall_14 : decode cX0_takeCall 14 = .ok (.iload_n 1, 1) := by decide +kernel
theorem dX0_takeCall_15 : decode cX0_takeCall 15 = .ok (.aaload, 1) := by decide +kernel
theorem dX0_takeCall_16 : decode cX0_takeCall 16 = .ok (.getfield 58, 3) := by decide +kernel
theorem dX0_takeCall_19 : decode cX0_takeCall 19 = .ok (.ifCond .eq 16, 3) := by decide +kernel
theorem dX0_takeCall_22 : decode cX0_takeCall 22 = .ok (.aload_n 0, 1) := by decide +kernel
theorem dX0_takeCall_23 : decode cX0_takeCall 23 = .ok (.getfield 11, 3) := by decide +kernel
theorem dX0_takeCall_26 : decode cX0_takeCall 26 = .ok (.iload_n 1, 1) := by decide +kernel
theorem dX0_takeCall_27 : decode cX0_takeCall 27 = .ok (.aaload, 1) := by decide +kernel
theorem dX0_takeCall_28 : decode cX0_takeCall 28 = .ok (.iconst (-1), 1) := by decide +kernel
theorem dX0_takeCall_29 : decode cX0_takeCall 29 = .ok (.putfield 45, 3) := by decide +kernel
theorem dX0_takeCall_32 : decode cX0_takeCall 32 = .ok (.goto 8, 3) := by decide +kernel
theorem dX0_takeCall_35 : decode cX0_takeCall 35 = .ok (.aload_n 0, 1) := by decide +kernel
theorem dX0_takeCall_36 : decode cX0_takeCall 36 = .ok (.iload_n 1, 1) := by decide +kernel
theorem dX0_takeCall_37 : decode cX0_takeCall 37 = .ok (.invokevirtual 72, 3) := by decide +kernel
theorem dX0_takeCall_40 : decode cX0_takeCall 40 = .ok (.return_, 1) := by decide +kernel
theorem dX0_takeClash_0 : decode cX0_takeClash 0 = .ok (.aload_n 0, 1) := by decide +kernel
theorem dX0_takeClash_1 : decode cX0_takeClash 1 = .ok (.getfield 11, 3) := by decide +kernel
theorem dX0_takeClash_4 : decode cX0_takeClash 4 = .ok (.iload_n 1, 1) := by decide +kernel
theorem dX0_takeClash_5 : decode cX0_takeClash 5 = .ok (.aaload, 1) := by decide +kernel
theorem dX0_takeClash_6 : decode cX0_takeClash 6 = .ok (.astore 4, 2) := by decide +kernel
theorem dX0_takeClash_8 : decode cX0_takeClash 8 = .ok (.aload 4, 2) := by decide +kernel
theorem dX0_takeClash_10 : decode cX0_takeClash 10 = .ok (.iconst 0, 1) := by decide +kernel
theorem dX0_takeClash_11 : decode cX0_takeClash 11 = .ok (.putfield 42, 3) := by decide +kernel
theorem dX0_takeClash_14 : decode cX0_takeClash 14 = .ok (.aload_n 0, 1) := by decide +kernel
theorem dX0_takeClash_15 : decode cX0_takeClash 15 = .ok (.dup, 1) := by decide +kernel
theorem dX0_takeClash_16 : decode cX0_takeClash 16 = .ok (.getfield 78, 3) := by decide +kernel
theorem dX0_takeClash_19 : decode cX0_takeClash 19 = .ok (.iconst 1, 1) := by decide +kernel
theorem dX0_takeClash_20 : decode cX0_takeClash 20 = .ok (.iadd, 1) := by decide +kernel
theorem dX0_takeClash_21 : decode cX0_takeClash 21 = .ok (.putfield 78, 3) := by decide +kernel
theorem dX0_takeClash_24 : decode cX0_takeClash 24 = .ok (.aload 4, 2) := by decide +kernel
theorem dX0_takeClash_26 : decode cX0_takeClash 26 = .ok (.getfield 55, 3) := by decide +kernel
theorem dX0_takeClash_29 : decode cX0_takeClash 29 = .ok (.ifCond .ne 5, 3) := by decide +kernel
theorem dX0_takeClash_32 : decode cX0_takeClash 32 = .ok (.iconst 0, 1) := by decide +kernel
theorem dX0_takeClash_33 : decode cX0_takeClash 33 = .ok (.ireturn, 1) := by decide +kernel
theorem dX0_takeClash_34 : decode cX0_takeClash 34 = .ok (.aload_n 0, 1) := by decide +kernel
theorem dX0_takeClash_35 : decode cX0_takeClash 35 = .ok (.getfield 81, 3) := by decide +kernel
theorem dX0_takeClash_38 : decode cX0_takeClash 38 = .ok (.iconst 1, 1) := by decide +kernel
theorem dX0_takeClash_39 : decode cX0_takeClash 39 = .ok (.if_icmp .ne 11, 3) := by decide +kernel
theorem dX0_takeClash_42 : decode cX0_takeClash 42 = .ok (.aload 4, 2) := by decide +kernel
theorem dX0_takeClash_44 : decode cX0_takeClash 44 = .ok (.iload_n 3, 1) := by decide +kernel
theorem dX0_takeClash_45 : decode cX0_takeClash 45 = .ok (.putfield 84, 3) := by decide +kernel
theorem dX0_takeClash_48 : decode cX0_takeClash 48 = .ok (.iconst 1, 1) := by decide +kernel
theorem dX0_takeClash_49 : decode cX0_takeClash 49 = .ok (.ireturn, 1) := by decide +kernel
theorem dX0_takeClash_50 : decode cX0_takeClash 50 = .ok (.aload_n 0, 1) := by decide +kernel
theorem dX0_takeClash_51 : decode cX0_takeClash 51 = .ok (.getfield 81, 3) := by decide +kernel
theorem dX0_takeClash_54 : decode cX0_takeClash 54 = .ok (.iconst 2, 1) := by decide +kernel
theorem dX0_takeClash_55 : decode cX0_takeClash 55 = .ok (.if_icmp .ne 13, 3) := by decide +kernel
theorem dX0_takeClash_58 : decode cX0_takeClash 58 = .ok (.aload_n 0, 1) := by decide +kernel
theorem dX0_takeClash_59 : decode cX0_takeClash 59 = .ok (.iload_n 1, 1) := by decide +kernel
theorem dX0_takeClash_60 : decode cX0_takeClash 60 = .ok (.aload 4, 2) := by decide +kernel
theorem dX0_takeClash_62 : decode cX0_takeClash 62 = .ok (.getfield 87, 3) := by decide +kernel
theorem dX0_takeClash_65 : decode cX0_takeClash 65 = .ok (.invokevirtual 90, 3) := by decide +kernel
theorem dX0_takeClash_68 : decode cX0_takeClash 68 = .ok (.aload 4, 2) := by decide +kernel
theorem dX0_takeClash_70 : decode cX0_takeClash 70 = .ok (.iload_n 2, 1) := by decide +kernel
theorem dX0_takeClash_71 : decode cX0_takeClash 71 = .ok (.iload_n 3, 1) := by decide +kernel
theorem dX0_takeClash_72 : decode cX0_takeClash 72 = .ok (.iconst (-1), 1) := by decide +kernel
theorem dX0_takeClash_73 : decode cX0_takeClash 73 = .ok (.invokevirtual 65, 3) := by decide +kernel
theorem dX0_takeClash_76 : decode cX0_takeClash 76 = .ok (.iconst 0, 1) := by decide +kernel
theorem dX0_takeClash_77 : decode cX0_takeClash 77 = .ok (.ireturn, 1) := by decide +kernel
theorem dX0_keepAside_0 : decode cX0_keepAside 0 = .ok (.aload_n 0, 1) := by decide +kernel
theorem dX0_keepAside_1 : decode cX0_keepAside 1 = .ok (.getfield 26, 3) := by decide +kernel
theorem dX0_keepAside_4 : decode cX0_keepAside 4 = .ok (.getfield 94, 3) := by decide +kernel
theorem dX0_keepAside_7 : decode cX0_keepAside 7 = .ok (.bipush 10, 2) := by decide +kernel
theorem dX0_keepAside_9 : decode cX0_keepAside 9 = .ok (.if_icmp .lt 11, 3) := by decide +kernel
theorem dX0_keepAside_12 : decode cX0_keepAside 12 = .ok (.aload_n 0, 1) := by decide +kernel
theorem dX0_keepAside_13 : decode cX0_keepAside 13 = .ok (.getfield 26, 3) := by decide +kernel
theorem dX0_keepAside_16 : decode cX0_keepAside 16 = .ok (.iconst 1, 1) := by decide +kernel
theorem dX0_keepAside_17 : decode cX0_keepAside 17 = .ok (.invokevirtual 97, 3) := by decide +kernel
theorem dX0_keepAside_20 : decode cX0_keepAside 20 = .ok (.aload_n 0, 1) := by decide +kernel
theorem dX0_keepAside_21 : decode cX0_keepAside 21 = .ok (.getfield 26, 3) := by decide +kernel
theorem dX0_keepAside_24 : decode cX0_keepAside 24 = .ok (.invokevirtual 100, 3) := by decide +kernel
theorem dX0_keepAside_27 : decode cX0_keepAside 27 = .ok (.istore_n 3, 1) := by decide +kernel
theorem dX0_keepAside_28 : decode cX0_keepAside 28 = .ok (.aload_n 0, 1) := by decide +kernel
theorem dX0_keepAside_29 : decode cX0_keepAside 29 = .ok (.getfield 26, 3) := by decide +kernel
theorem dX0_keepAside_32 : decode cX0_keepAside 32 = .ok (.iload_n 3, 1) := by decide +kernel
theorem dX0_keepAside_33 : decode cX0_keepAside 33 = .ok (.iconst 0, 1) := by decide +kernel
theorem dX0_keepAside_34 : decode cX0_keepAside 34 = .ok (.iload_n 1, 1) := by decide +kernel
theorem dX0_keepAside_35 : decode cX0_keepAside 35 = .ok (.invokevirtual 104, 3) := by decide +kernel
theorem dX0_keepAside_38 : decode cX0_keepAside 38 = .ok (.aload_n 0, 1) := by decide +kernel
theorem dX0_keepAside_39 : decode cX0_keepAside 39 = .ok (.getfield 26, 3) := by decide +kernel
theorem dX0_keepAside_42 : decode cX0_keepAside 42 = .ok (.iload_n 3, 1) := by decide +kernel
theorem dX0_keepAside_43 : decode cX0_keepAside 43 = .ok (.iconst 1, 1) := by decide +kernel
theorem dX0_keepAside_44 : decode cX0_keepAside 44 = .ok (.iload_n 2, 1) := by decide +kernel
theorem dX0_keepAside_45 : decode cX0_keepAside 45 = .ok (.invokevirtual 104, 3) := by decide +kernel
theorem dX0_keepAside_48 : decode cX0_keepAside 48 = .ok (.return_, 1) := by decide +kernel
theorem dX0_longestDirty_0 : decode cX0_longestDirty 0 = .ok (.iconst (-1), 1) := by decide +kernel
theorem dX0_longestDirty_1 : decode cX0_longestDirty 1 = .ok (.istore_n 1, 1) := by decide +kernel
theorem dX0_longestDirty_2 : decode cX0_longestDirty 2 = .ok (.bipush 11, 2) := by decide +kernel
theorem dX0_longestDirty_4 : decode cX0_longestDirty 4 = .ok (.istore_n 2, 1) := by decide +kernel
theorem dX0_longestDirty_5 : decode cX0_longestDirty 5 = .ok (.iload_n 2, 1) := by decide +kernel
theorem dX0_longestDirty_6 : decode cX0_longestDirty 6 = .ok (.ifCond .lt 53, 3) := by decide +kernel
theorem dX0_longestDirty_9 : decode cX0_longestDirty 9 = .ok (.aload_n 0, 1) := by decide +kernel
theorem dX0_longestDirty_10 : decode cX0_longestDirty 10 = .ok (.getfield 11, 3) := by decide +kernel
theorem dX0_longestDirty_13 : decode cX0_longestDirty 13 = .ok (.iload_n 2, 1) := by decide +kernel
theorem dX0_longestDirty_14 : decode cX0_longestDirty 14 = .ok (.aaload, 1) := by decide +kernel
theorem dX0_longestDirty_15 : decode cX0_longestDirty 15 = .ok (.astore_n 3, 1) := by decide +kernel
theorem dX0_longestDirty_16 : decode cX0_longestDirty 16 = .ok (.aload_n 3, 1) := by decide +kernel
theorem dX0_longestDirty_17 : decode cX0_longestDirty 17 = .ok (.getfield 58, 3) := by decide +kernel
theorem dX0_longestDirty_20 : decode cX0_longestDirty 20 = .ok (.ifCond .eq 33, 3) := by decide +kernel
theorem dX0_longestDirty_23 : decode cX0_longestDirty 23 = .ok (.aload_n 3, 1) := by decide +kernel
theorem dX0_longestDirty_24 : decode cX0_longestDirty 24 = .ok (.getfield 42, 3) := by decide +kernel
theorem dX0_longestDirty_27 : decode cX0_longestDirty 27 = .ok (.ifCond .ne 26, 3) := by decide +kernel
theorem dX0_longestDirty_30 : decode cX0_longestDirty 30 = .ok (.iload_n 1, 1) := by decide +kernel
theorem dX0_longestDirty_31 : decode cX0_longestDirty 31 = .ok (.iconst (-1), 1) := by decide +kernel
theorem dX0_longestDirty_32 : decode cX0_longestDirty 32 = .ok (.if_icmp .eq 19, 3) := by decide +kernel
theorem dX0_longestDirty_35 : decode cX0_longestDirty 35 = .ok (.aload_n 3, 1) := by decide +kernel
theorem dX0_longestDirty_36 : decode cX0_longestDirty 36 = .ok (.getfield 107, 3) := by decide +kernel
theorem dX0_longestDirty_39 : decode cX0_longestDirty 39 = .ok (.aload_n 0, 1) := by decide +kernel
theorem dX0_longestDirty_40 : decode cX0_longestDirty 40 = .ok (.getfield 11, 3) := by decide +kernel
theorem dX0_longestDirty_43 : decode cX0_longestDirty 43 = .ok (.iload_n 1, 1) := by decide +kernel
theorem dX0_longestDirty_44 : decode cX0_longestDirty 44 = .ok (.aaload, 1) := by decide +kernel
theorem dX0_longestDirty_45 : decode cX0_longestDirty 45 = .ok (.getfield 107, 3) := by decide +kernel
theorem dX0_longestDirty_48 : decode cX0_longestDirty 48 = .ok (.if_icmp .gt 5, 3) := by decide +kernel
theorem dX0_longestDirty_51 : decode cX0_longestDirty 51 = .ok (.iload_n 2, 1) := by decide +kernel
theorem dX0_longestDirty_52 : decode cX0_longestDirty 52 = .ok (.istore_n 1, 1) := by decide +kernel
theorem dX0_longestDirty_53 : decode cX0_longestDirty 53 = .ok (.iinc 2 (-1), 3) := by decide +kernel
theorem dX0_longestDirty_56 : decode cX0_longestDirty 56 = .ok (.goto (-51), 3) := by decide +kernel
theorem dX0_longestDirty_59 : decode cX0_longestDirty 59 = .ok (.iload_n 1, 1) := by decide +kernel
theorem dX0_longestDirty_60 : decode cX0_longestDirty 60 = .ok (.ireturn, 1) := by decide +kernel
theorem dX0_isClean_0 : decode cX0_isClean 0 = .ok (.iconst 0, 1) := by decide +kernel
theorem dX0_isClean_1 : decode cX0_isClean 1 = .ok (.istore_n 1, 1) := by decide +kernel
theorem dX0_isClean_2 : decode cX0_isClean 2 = .ok (.iload_n 1, 1) := by decide +kernel
theorem dX0_isClean_3 : decode cX0_isClean 3 = .ok (.bipush 12, 2) := by decide +kernel
theorem dX0_isClean_5 : decode cX0_isClean 5 = .ok (.if_icmp .ge 23, 3) := by decide +kernel
theorem dX0_isClean_8 : decode cX0_isClean 8 = .ok (.aload_n 0, 1) := by decide +kernel
theorem dX0_isClean_9 : decode cX0_isClean 9 = .ok (.getfield 11, 3) := by decide +kernel
theorem dX0_isClean_12 : decode cX0_isClean 12 = .ok (.iload_n 1, 1) := by decide +kernel
theorem dX0_isClean_13 : decode cX0_isClean 13 = .ok (.aaload, 1) := by decide +kernel
theorem dX0_isClean_14 : decode cX0_isClean 14 = .ok (.getfield 58, 3) := by decide +kernel
theorem dX0_isClean_17 : decode cX0_isClean 17 = .ok (.ifCond .eq 5, 3) := by decide +kernel
theorem dX0_isClean_20 : decode cX0_isClean 20 = .ok (.iconst 0, 1) := by decide +kernel
theorem dX0_isClean_21 : decode cX0_isClean 21 = .ok (.ireturn, 1) := by decide +kernel
theorem dX0_isClean_22 : decode cX0_isClean 22 = .ok (.iinc 1 1, 3) := by decide +kernel
theorem dX0_isClean_25 : decode cX0_isClean 25 = .ok (.goto (-23), 3) := by decide +kernel
theorem dX0_isClean_28 : decode cX0_isClean 28 = .ok (.iconst 1, 1) := by decide +kernel
theorem dX0_isClean_29 : decode cX0_isClean 29 = .ok (.ireturn, 1) := by decide +kernel
theorem dX0_tell_0 : decode cX0_tell 0 = .ok (.iload_n 1, 1) := by decide +kernel
theorem dX0_tell_1 : decode cX0_tell 1 = .ok (.tableswitch 69 0 5 #[39, 44, 49, 54, 59, 64], 39) := by decide +kernel
theorem dX0_tell_40 : decode cX0_tell 40 = .ok (.aload_n 0, 1) := by decide +kernel
theorem dX0_tell_41 : decode cX0_tell 41 = .ok (.getfield 52, 3) := by decide +kernel
theorem dX0_tell_44 : decode cX0_tell 44 = .ok (.ireturn, 1) := by decide +kernel
theorem dX0_tell_45 : decode cX0_tell 45 = .ok (.aload_n 0, 1) := by decide +kernel
theorem dX0_tell_46 : decode cX0_tell 46 = .ok (.getfield 110, 3) := by decide +kernel
theorem dX0_tell_49 : decode cX0_tell 49 = .ok (.ireturn, 1) := by decide +kernel
theorem dX0_tell_50 : decode cX0_tell 50 = .ok (.aload_n 0, 1) := by decide +kernel
theorem dX0_tell_51 : decode cX0_tell 51 = .ok (.getfield 113, 3) := by decide +kernel
theorem dX0_tell_54 : decode cX0_tell 54 = .ok (.ireturn, 1) := by decide +kernel
theorem dX0_tell_55 : decode cX0_tell 55 = .ok (.aload_n 0, 1) := by decide +kernel
theorem dX0_tell_56 : decode cX0_tell 56 = .ok (.getfield 78, 3) := by decide +kernel
theorem dX0_tell_59 : decode cX0_tell 59 = .ok (.ireturn, 1) := by decide +kernel
theorem dX0_tell_60 : decode cX0_tell 60 = .ok (.aload_n 0, 1) := by decide +kernel
theorem dX0_tell_61 : decode cX0_tell 61 = .ok (.getfield 75, 3) := by decide +kernel
theorem dX0_tell_64 : decode cX0_tell 64 = .ok (.ireturn, 1) := by decide +kernel
theorem dX0_tell_65 : decode cX0_tell 65 = .ok (.aload_n 0, 1) := by decide +kernel
theorem dX0_tell_66 : decode cX0_tell 66 = .ok (.getfield 116, 3) := by decide +kernel
theorem dX0_tell_69 : decode cX0_tell 69 = .ok (.ireturn, 1) := by decide +kernel
theorem dX0_tell_70 : decode cX0_tell 70 = .ok (.aload_n 0, 1) := by decide +kernel
theorem dX0_tell_71 : decode cX0_tell 71 = .ok (.getfield 35, 3) := by decide +kernel
theorem dX0_tell_74 : decode cX0_tell 74 = .ok (.ifCond .eq 7, 3) := by decide +kernel
theorem dX0_tell_77 : decode cX0_tell 77 = .ok (.iconst 1, 1) := by decide +kernel
theorem dX0_tell_78 : decode cX0_tell 78 = .ok (.goto 4, 3) := by decide +kernel
theorem dX0_tell_81 : decode cX0_tell 81 = .ok (.iconst 0, 1) := by decide +kernel
theorem dX0_tell_82 : decode cX0_tell 82 = .ok (.ireturn, 1) := by decide +kernel
theorem dX0_addToDigest_0 : decode cX0_addToDigest 0 = .ok (.lload_n 1, 1) := by decide +kernel
theorem dX0_addToDigest_1 : decode cX0_addToDigest 1 = .ok (.lstore 4, 2) := by decide +kernel
theorem dX0_addToDigest_3 : decode cX0_addToDigest 3 = .ok (.iconst 0, 1) := by decide +kernel
theorem dX0_addToDigest_4 : decode cX0_addToDigest 4 = .ok (.istore 6, 2) := by decide +kernel
theorem dX0_addToDigest_6 : decode cX0_addToDigest 6 = .ok (.iload 6, 2) := by decide +kernel
theorem dX0_addToDigest_8 : decode cX0_addToDigest 8 = .ok (.bipush 6, 2) := by decide +kernel
theorem dX0_addToDigest_10 : decode cX0_addToDigest 10 = .ok (.if_icmp .gt 25, 3) := by decide +kernel
theorem dX0_addToDigest_13 : decode cX0_addToDigest 13 = .ok (.lload 4, 2) := by decide +kernel
theorem dX0_addToDigest_15 : decode cX0_addToDigest 15 = .ok (.ldc2_w 119, 3) := by decide +kernel
theorem dX0_addToDigest_18 : decode cX0_addToDigest 18 = .ok (.lmul, 1) := by decide +kernel
theorem dX0_addToDigest_19 : decode cX0_addToDigest 19 = .ok (.aload_n 0, 1) := by decide +kernel
theorem dX0_addToDigest_20 : decode cX0_addToDigest 20 = .ok (.iload 6, 2) := by decide +kernel
theorem dX0_addToDigest_22 : decode cX0_addToDigest 22 = .ok (.invokevirtual 121, 3) := by decide +kernel
theorem dX0_addToDigest_25 : decode cX0_addToDigest 25 = .ok (.i2l, 1) := by decide +kernel
theorem dX0_addToDigest_26 : decode cX0_addToDigest 26 = .ok (.ladd, 1) := by decide +kernel
theorem dX0_addToDigest_27 : decode cX0_addToDigest 27 = .ok (.lstore 4, 2) := by decide +kernel
theorem dX0_addToDigest_29 : decode cX0_addToDigest 29 = .ok (.iinc 6 1, 3) := by decide +kernel
theorem dX0_addToDigest_32 : decode cX0_addToDigest 32 = .ok (.goto (-26), 3) := by decide +kernel
theorem dX0_addToDigest_35 : decode cX0_addToDigest 35 = .ok (.iconst 0, 1) := by decide +kernel
theorem dX0_addToDigest_36 : decode cX0_addToDigest 36 = .ok (.istore 6, 2) := by decide +kernel
theorem dX0_addToDigest_38 : decode cX0_addToDigest 38 = .ok (.iload 6, 2) := by decide +kernel
theorem dX0_addToDigest_40 : decode cX0_addToDigest 40 = .ok (.aload_n 0, 1) := by decide +kernel
theorem dX0_addToDigest_41 : decode cX0_addToDigest 41 = .ok (.getfield 52, 3) := by decide +kernel
theorem dX0_addToDigest_44 : decode cX0_addToDigest 44 = .ok (.if_icmp .ge 26, 3) := by decide +kernel
theorem dX0_addToDigest_47 : decode cX0_addToDigest 47 = .ok (.lload 4, 2) := by decide +kernel
theorem dX0_addToDigest_49 : decode cX0_addToDigest 49 = .ok (.ldc2_w 119, 3) := by decide +kernel
theorem dX0_addToDigest_52 : decode cX0_addToDigest 52 = .ok (.lmul, 1) := by decide +kernel
theorem dX0_addToDigest_53 : decode cX0_addToDigest 53 = .ok (.aload_n 0, 1) := by decide +kernel
theorem dX0_addToDigest_54 : decode cX0_addToDigest 54 = .ok (.getfield 17, 3) := by decide +kernel
theorem dX0_addToDigest_57 : decode cX0_addToDigest 57 = .ok (.iload 6, 2) := by decide +kernel
theorem dX0_addToDigest_59 : decode cX0_addToDigest 59 = .ok (.iaload, 1) := by decide +kernel
theorem dX0_addToDigest_60 : decode cX0_addToDigest 60 = .ok (.i2l, 1) := by decide +kernel
theorem dX0_addToDigest_61 : decode cX0_addToDigest 61 = .ok (.ladd, 1) := by decide +kernel
theorem dX0_addToDigest_62 : decode cX0_addToDigest 62 = .ok (.lstore 4, 2) := by decide +kernel
theorem dX0_addToDigest_64 : decode cX0_addToDigest 64 = .ok (.iinc 6 1, 3) := by decide +kernel
theorem dX0_addToDigest_67 : decode cX0_addToDigest 67 = .ok (.goto (-29), 3) := by decide +kernel
theorem dX0_addToDigest_70 : decode cX0_addToDigest 70 = .ok (.iconst 0, 1) := by decide +kernel
theorem dX0_addToDigest_71 : decode cX0_addToDigest 71 = .ok (.istore 6, 2) := by decide +kernel
theorem dX0_addToDigest_73 : decode cX0_addToDigest 73 = .ok (.iload 6, 2) := by decide +kernel
theorem dX0_addToDigest_75 : decode cX0_addToDigest 75 = .ok (.bipush 12, 2) := by decide +kernel
theorem dX0_addToDigest_77 : decode cX0_addToDigest 77 = .ok (.if_icmp .ge 51, 3) := by decide +kernel
theorem dX0_addToDigest_80 : decode cX0_addToDigest 80 = .ok (.iconst 0, 1) := by decide +kernel
theorem dX0_addToDigest_81 : decode cX0_addToDigest 81 = .ok (.istore 7, 2) := by decide +kernel
theorem dX0_addToDigest_83 : decode cX0_addToDigest 83 = .ok (.iload 7, 2) := by decide +kernel
theorem dX0_addToDigest_85 : decode cX0_addToDigest 85 = .ok (.iconst 5, 1) := by decide +kernel
theorem dX0_addToDigest_86 : decode cX0_addToDigest 86 = .ok (.if_icmp .gt 36, 3) := by decide +kernel
theorem dX0_addToDigest_89 : decode cX0_addToDigest 89 = .ok (.lload 4, 2) := by decide +kernel
theorem dX0_addToDigest_91 : decode cX0_addToDigest 91 = .ok (.ldc2_w 119, 3) := by decide +kernel
theorem dX0_addToDigest_94 : decode cX0_addToDigest 94 = .ok (.lmul, 1) := by decide +kernel
theorem dX0_addToDigest_95 : decode cX0_addToDigest 95 = .ok (.aload_n 0, 1) := by decide +kernel
theorem dX0_addToDigest_96 : decode cX0_addToDigest 96 = .ok (.getfield 11, 3) := by decide +kernel
theorem dX0_addToDigest_99 : decode cX0_addToDigest 99 = .ok (.iload 6, 2) := by decide +kernel
theorem dX0_addToDigest_101 : decode cX0_addToDigest 101 = .ok (.aaload, 1) := by decide +kernel
theorem dX0_addToDigest_102 : decode cX0_addToDigest 102 = .ok (.iload 7, 2) := by decide +kernel
theorem dX0_addToDigest_104 : decode cX0_addToDigest 104 = .ok (.iload_n 3, 1) := by decide +kernel
theorem dX0_addToDigest_105 : decode cX0_addToDigest 105 = .ok (.aload_n 0, 1) := by decide +kernel
theorem dX0_addToDigest_106 : decode cX0_addToDigest 106 = .ok (.getfield 35, 3) := by decide +kernel
theorem dX0_addToDigest_109 : decode cX0_addToDigest 109 = .ok (.invokevirtual 124, 3) := by decide +kernel
theorem dX0_addToDigest_112 : decode cX0_addToDigest 112 = .ok (.i2l, 1) := by decide +kernel
theorem dX0_addToDigest_113 : decode cX0_addToDigest 113 = .ok (.ladd, 1) := by decide +kernel
theorem dX0_addToDigest_114 : decode cX0_addToDigest 114 = .ok (.lstore 4, 2) := by decide +kernel
theorem dX0_addToDigest_116 : decode cX0_addToDigest 116 = .ok (.iinc 7 1, 3) := by decide +kernel
theorem dX0_addToDigest_119 : decode cX0_addToDigest 119 = .ok (.goto (-36), 3) := by decide +kernel
theorem dX0_addToDigest_122 : decode cX0_addToDigest 122 = .ok (.iinc 6 1, 3) := by decide +kernel
theorem dX0_addToDigest_125 : decode cX0_addToDigest 125 = .ok (.goto (-52), 3) := by decide +kernel
theorem dX0_addToDigest_128 : decode cX0_addToDigest 128 = .ok (.lload 4, 2) := by decide +kernel
theorem dX0_addToDigest_130 : decode cX0_addToDigest 130 = .ok (.lreturn, 1) := by decide +kernel
theorem dX0_copyFrom_0 : decode cX0_copyFrom 0 = .ok (.iconst 0, 1) := by decide +kernel
theorem dX0_copyFrom_1 : decode cX0_copyFrom 1 = .ok (.istore_n 2, 1) := by decide +kernel
theorem dX0_copyFrom_2 : decode cX0_copyFrom 2 = .ok (.iload_n 2, 1) := by decide +kernel
theorem dX0_copyFrom_3 : decode cX0_copyFrom 3 = .ok (.bipush 12, 2) := by decide +kernel
theorem dX0_copyFrom_5 : decode cX0_copyFrom 5 = .ok (.if_icmp .ge 36, 3) := by decide +kernel
theorem dX0_copyFrom_8 : decode cX0_copyFrom 8 = .ok (.aload_n 0, 1) := by decide +kernel
theorem dX0_copyFrom_9 : decode cX0_copyFrom 9 = .ok (.getfield 11, 3) := by decide +kernel
theorem dX0_copyFrom_12 : decode cX0_copyFrom 12 = .ok (.iload_n 2, 1) := by decide +kernel
theorem dX0_copyFrom_13 : decode cX0_copyFrom 13 = .ok (.aaload, 1) := by decide +kernel
theorem dX0_copyFrom_14 : decode cX0_copyFrom 14 = .ok (.aload_n 1, 1) := by decide +kernel
theorem dX0_copyFrom_15 : decode cX0_copyFrom 15 = .ok (.getfield 11, 3) := by decide +kernel
theorem dX0_copyFrom_18 : decode cX0_copyFrom 18 = .ok (.iload_n 2, 1) := by decide +kernel
theorem dX0_copyFrom_19 : decode cX0_copyFrom 19 = .ok (.aaload, 1) := by decide +kernel
theorem dX0_copyFrom_20 : decode cX0_copyFrom 20 = .ok (.invokevirtual 127, 3) := by decide +kernel
theorem dX0_copyFrom_23 : decode cX0_copyFrom 23 = .ok (.aload_n 0, 1) := by decide +kernel
theorem dX0_copyFrom_24 : decode cX0_copyFrom 24 = .ok (.getfield 17, 3) := by decide +kernel
theorem dX0_copyFrom_27 : decode cX0_copyFrom 27 = .ok (.iload_n 2, 1) := by decide +kernel
theorem dX0_copyFrom_28 : decode cX0_copyFrom 28 = .ok (.aload_n 1, 1) := by decide +kernel
theorem dX0_copyFrom_29 : decode cX0_copyFrom 29 = .ok (.getfield 17, 3) := by decide +kernel
theorem dX0_copyFrom_32 : decode cX0_copyFrom 32 = .ok (.iload_n 2, 1) := by decide +kernel
theorem dX0_copyFrom_33 : decode cX0_copyFrom 33 = .ok (.iaload, 1) := by decide +kernel
theorem dX0_copyFrom_34 : decode cX0_copyFrom 34 = .ok (.iastore, 1) := by decide +kernel
theorem dX0_copyFrom_35 : decode cX0_copyFrom 35 = .ok (.iinc 2 1, 3) := by decide +kernel
theorem dX0_copyFrom_38 : decode cX0_copyFrom 38 = .ok (.goto (-36), 3) := by decide +kernel
theorem dX0_copyFrom_41 : decode cX0_copyFrom 41 = .ok (.aload_n 0, 1) := by decide +kernel
theorem dX0_copyFrom_42 : decode cX0_copyFrom 42 = .ok (.aload_n 1, 1) := by decide +kernel
theorem dX0_copyFrom_43 : decode cX0_copyFrom 43 = .ok (.getfield 52, 3) := by decide +kernel
theorem dX0_copyFrom_46 : decode cX0_copyFrom 46 = .ok (.putfield 52, 3) := by decide +kernel
theorem dX0_copyFrom_49 : decode cX0_copyFrom 49 = .ok (.aload_n 0, 1) := by decide +kernel
theorem dX0_copyFrom_50 : decode cX0_copyFrom 50 = .ok (.getfield 26, 3) := by decide +kernel
theorem dX0_copyFrom_53 : decode cX0_copyFrom 53 = .ok (.aload_n 1, 1) := by decide +kernel
theorem dX0_copyFrom_54 : decode cX0_copyFrom 54 = .ok (.getfield 26, 3) := by decide +kernel
theorem dX0_copyFrom_57 : decode cX0_copyFrom 57 = .ok (.invokevirtual 131, 3) := by decide +kernel
theorem dX0_copyFrom_60 : decode cX0_copyFrom 60 = .ok (.aload_n 0, 1) := by decide +kernel
theorem dX0_copyFrom_61 : decode cX0_copyFrom 61 = .ok (.aload_n 1, 1) := by decide +kernel
theorem dX0_copyFrom_62 : decode cX0_copyFrom 62 = .ok (.getfield 30, 3) := by decide +kernel
theorem dX0_copyFrom_65 : decode cX0_copyFrom 65 = .ok (.putfield 30, 3) := by decide +kernel
theorem dX0_copyFrom_68 : decode cX0_copyFrom 68 = .ok (.aload_n 0, 1) := by decide +kernel
theorem dX0_copyFrom_69 : decode cX0_copyFrom 69 = .ok (.aload_n 1, 1) := by decide +kernel
theorem dX0_copyFrom_70 : decode cX0_copyFrom 70 = .ok (.getfield 81, 3) := by decide +kernel
theorem dX0_copyFrom_73 : decode cX0_copyFrom 73 = .ok (.putfield 81, 3) := by decide +kernel
theorem dX0_copyFrom_76 : decode cX0_copyFrom 76 = .ok (.aload_n 0, 1) := by decide +kernel
theorem dX0_copyFrom_77 : decode cX0_copyFrom 77 = .ok (.aload_n 1, 1) := by decide +kernel
theorem dX0_copyFrom_78 : decode cX0_copyFrom 78 = .ok (.getfield 35, 3) := by decide +kernel
theorem dX0_copyFrom_81 : decode cX0_copyFrom 81 = .ok (.putfield 35, 3) := by decide +kernel
theorem dX0_copyFrom_84 : decode cX0_copyFrom 84 = .ok (.aload_n 0, 1) := by decide +kernel
theorem dX0_copyFrom_85 : decode cX0_copyFrom 85 = .ok (.aload_n 1, 1) := by decide +kernel
theorem dX0_copyFrom_86 : decode cX0_copyFrom 86 = .ok (.getfield 110, 3) := by decide +kernel
theorem dX0_copyFrom_89 : decode cX0_copyFrom 89 = .ok (.putfield 110, 3) := by decide +kernel
theorem dX0_copyFrom_92 : decode cX0_copyFrom 92 = .ok (.aload_n 0, 1) := by decide +kernel
theorem dX0_copyFrom_93 : decode cX0_copyFrom 93 = .ok (.aload_n 1, 1) := by decide +kernel
theorem dX0_copyFrom_94 : decode cX0_copyFrom 94 = .ok (.getfield 113, 3) := by decide +kernel
theorem dX0_copyFrom_97 : decode cX0_copyFrom 97 = .ok (.putfield 113, 3) := by decide +kernel
theorem dX0_copyFrom_100 : decode cX0_copyFrom 100 = .ok (.aload_n 0, 1) := by decide +kernel
theorem dX0_copyFrom_101 : decode cX0_copyFrom 101 = .ok (.aload_n 1, 1) := by decide +kernel
theorem dX0_copyFrom_102 : decode cX0_copyFrom 102 = .ok (.getfield 78, 3) := by decide +kernel
theorem dX0_copyFrom_105 : decode cX0_copyFrom 105 = .ok (.putfield 78, 3) := by decide +kernel
theorem dX0_copyFrom_108 : decode cX0_copyFrom 108 = .ok (.aload_n 0, 1) := by decide +kernel
theorem dX0_copyFrom_109 : decode cX0_copyFrom 109 = .ok (.aload_n 1, 1) := by decide +kernel
theorem dX0_copyFrom_110 : decode cX0_copyFrom 110 = .ok (.getfield 75, 3) := by decide +kernel
theorem dX0_copyFrom_113 : decode cX0_copyFrom 113 = .ok (.putfield 75, 3) := by decide +kernel
theorem dX0_copyFrom_116 : decode cX0_copyFrom 116 = .ok (.aload_n 0, 1) := by decide +kernel
theorem dX0_copyFrom_117 : decode cX0_copyFrom 117 = .ok (.aload_n 1, 1) := by decide +kernel
theorem dX0_copyFrom_118 : decode cX0_copyFrom 118 = .ok (.getfield 116, 3) := by decide +kernel
theorem dX0_copyFrom_121 : decode cX0_copyFrom 121 = .ok (.putfield 116, 3) := by decide +kernel
theorem dX0_copyFrom_124 : decode cX0_copyFrom 124 = .ok (.return_, 1) := by decide +kernel
theorem dX1_init_0 : decode cX1_init 0 = .ok (.aload_n 0, 1) := by decide +kernel
theorem dX1_init_1 : decode cX1_init 1 = .ok (.invokespecial 3, 3) := by decide +kernel
theorem dX1_init_4 : decode cX1_init 4 = .ok (.aload_n 0, 1) := by decide +kernel
theorem dX1_init_5 : decode cX1_init 5 = .ok (.iconst (-1), 1) := by decide +kernel
theorem dX1_init_6 : decode cX1_init 6 = .ok (.putfield 9, 3) := by decide +kernel
theorem dX1_init_9 : decode cX1_init 9 = .ok (.return_, 1) := by decide +kernel
theorem dX1_isTrusted_0 : decode cX1_isTrusted 0 = .ok (.aload_n 0, 1) := by decide +kernel
theorem dX1_isTrusted_1 : decode cX1_isTrusted 1 = .ok (.getfield 15, 3) := by decide +kernel
theorem dX1_isTrusted_4 : decode cX1_isTrusted 4 = .ok (.ifCond .eq 26, 3) := by decide +kernel
theorem dX1_isTrusted_7 : decode cX1_isTrusted 7 = .ok (.aload_n 0, 1) := by decide +kernel
theorem dX1_isTrusted_8 : decode cX1_isTrusted 8 = .ok (.getfield 19, 3) := by decide +kernel
theorem dX1_isTrusted_11 : decode cX1_isTrusted 11 = .ok (.ifCond .ne 15, 3) := by decide +kernel
theorem dX1_isTrusted_14 : decode cX1_isTrusted 14 = .ok (.iload_n 1, 1) := by decide +kernel
theorem dX1_isTrusted_15 : decode cX1_isTrusted 15 = .ok (.aload_n 0, 1) := by decide +kernel
theorem dX1_isTrusted_16 : decode cX1_isTrusted 16 = .ok (.getfield 9, 3) := by decide +kernel
theorem dX1_isTrusted_19 : decode cX1_isTrusted 19 = .ok (.if_icmp .lt 7, 3) := by decide +kernel
theorem dX1_isTrusted_22 : decode cX1_isTrusted 22 = .ok (.iload_n 2, 1) := by decide +kernel
theorem dX1_isTrusted_23 : decode cX1_isTrusted 23 = .ok (.ifCond .eq 7, 3) := by decide +kernel
theorem dX1_isTrusted_26 : decode cX1_isTrusted 26 = .ok (.iconst 1, 1) := by decide +kernel
theorem dX1_isTrusted_27 : decode cX1_isTrusted 27 = .ok (.goto 4, 3) := by decide +kernel
theorem dX1_isTrusted_30 : decode cX1_isTrusted 30 = .ok (.iconst 0, 1) := by decide +kernel
theorem dX1_isTrusted_31 : decode cX1_isTrusted 31 = .ok (.ireturn, 1) := by decide +kernel
theorem dX1_putContent_0 : decode cX1_putContent 0 = .ok (.aload_n 0, 1) := by decide +kernel
theorem dX1_putContent_1 : decode cX1_putContent 1 = .ok (.iload_n 1, 1) := by decide +kernel
theorem dX1_putContent_2 : decode cX1_putContent 2 = .ok (.putfield 22, 3) := by decide +kernel
theorem dX1_putContent_5 : decode cX1_putContent 5 = .ok (.aload_n 0, 1) := by decide +kernel
theorem dX1_putContent_6 : decode cX1_putContent 6 = .ok (.getfield 19, 3) := by decide +kernel
theorem dX1_putContent_9 : decode cX1_putContent 9 = .ok (.ifCond .ne 13, 3) := by decide +kernel
theorem dX1_putContent_12 : decode cX1_putContent 12 = .ok (.aload_n 0, 1) := by decide +kernel
theorem dX1_putContent_13 : decode cX1_putContent 13 = .ok (.iconst 1, 1) := by decide +kernel
theorem dX1_putContent_14 : decode cX1_putContent 14 = .ok (.putfield 19, 3) := by decide +kernel
theorem dX1_putContent_17 : decode cX1_putContent 17 = .ok (.aload_n 0, 1) := by decide +kernel
theorem dX1_putContent_18 : decode cX1_putContent 18 = .ok (.iload_n 2, 1) := by decide +kernel
theorem dX1_putContent_19 : decode cX1_putContent 19 = .ok (.putfield 25, 3) := by decide +kernel
theorem dX1_putContent_22 : decode cX1_putContent 22 = .ok (.return_, 1) := by decide +kernel
theorem dX1_beGiven_0 : decode cX1_beGiven 0 = .ok (.aload_n 0, 1) := by decide +kernel
theorem dX1_beGiven_1 : decode cX1_beGiven 1 = .ok (.iconst 1, 1) := by decide +kernel
theorem dX1_beGiven_2 : decode cX1_beGiven 2 = .ok (.putfield 15, 3) := by decide +kernel
theorem dX1_beGiven_5 : decode cX1_beGiven 5 = .ok (.aload_n 0, 1) := by decide +kernel
theorem dX1_beGiven_6 : decode cX1_beGiven 6 = .ok (.iload_n 1, 1) := by decide +kernel
theorem dX1_beGiven_7 : decode cX1_beGiven 7 = .ok (.putfield 22, 3) := by decide +kernel
theorem dX1_beGiven_10 : decode cX1_beGiven 10 = .ok (.aload_n 0, 1) := by decide +kernel
theorem dX1_beGiven_11 : decode cX1_beGiven 11 = .ok (.iload_n 2, 1) := by decide +kernel
theorem dX1_beGiven_12 : decode cX1_beGiven 12 = .ok (.putfield 28, 3) := by decide +kernel
theorem dX1_beGiven_15 : decode cX1_beGiven 15 = .ok (.aload_n 0, 1) := by decide +kernel
theorem dX1_beGiven_16 : decode cX1_beGiven 16 = .ok (.iload_n 3, 1) := by decide +kernel
theorem dX1_beGiven_17 : decode cX1_beGiven 17 = .ok (.putfield 9, 3) := by decide +kernel
theorem dX1_beGiven_20 : decode cX1_beGiven 20 = .ok (.aload_n 0, 1) := by decide +kernel
theorem dX1_beGiven_21 : decode cX1_beGiven 21 = .ok (.iconst 0, 1) := by decide +kernel
theorem dX1_beGiven_22 : decode cX1_beGiven 22 = .ok (.putfield 19, 3) := by decide +kernel
theorem dX1_beGiven_25 : decode cX1_beGiven 25 = .ok (.return_, 1) := by decide +kernel
theorem dX1_beStored_0 : decode cX1_beStored 0 = .ok (.aload_n 0, 1) := by decide +kernel
theorem dX1_beStored_1 : decode cX1_beStored 1 = .ok (.iconst 0, 1) := by decide +kernel
theorem dX1_beStored_2 : decode cX1_beStored 2 = .ok (.putfield 31, 3) := by decide +kernel
theorem dX1_beStored_5 : decode cX1_beStored 5 = .ok (.aload_n 0, 1) := by decide +kernel
theorem dX1_beStored_6 : decode cX1_beStored 6 = .ok (.getfield 15, 3) := by decide +kernel
theorem dX1_beStored_9 : decode cX1_beStored 9 = .ok (.ifCond .ne 4, 3) := by decide +kernel
theorem dX1_beStored_12 : decode cX1_beStored 12 = .ok (.return_, 1) := by decide +kernel
theorem dX1_beStored_13 : decode cX1_beStored 13 = .ok (.aload_n 0, 1) := by decide +kernel
theorem dX1_beStored_14 : decode cX1_beStored 14 = .ok (.iload_n 2, 1) := by decide +kernel
theorem dX1_beStored_15 : decode cX1_beStored 15 = .ok (.putfield 28, 3) := by decide +kernel
theorem dX1_beStored_18 : decode cX1_beStored 18 = .ok (.aload_n 0, 1) := by decide +kernel
theorem dX1_beStored_19 : decode cX1_beStored 19 = .ok (.iload_n 3, 1) := by decide +kernel
theorem dX1_beStored_20 : decode cX1_beStored 20 = .ok (.putfield 9, 3) := by decide +kernel
theorem dX1_beStored_23 : decode cX1_beStored 23 = .ok (.aload_n 0, 1) := by decide +kernel
theorem dX1_beStored_24 : decode cX1_beStored 24 = .ok (.getfield 22, 3) := by decide +kernel
theorem dX1_beStored_27 : decode cX1_beStored 27 = .ok (.iload_n 1, 1) := by decide +kernel
theorem dX1_beStored_28 : decode cX1_beStored 28 = .ok (.if_icmp .ne 8, 3) := by decide +kernel
theorem dX1_beStored_31 : decode cX1_beStored 31 = .ok (.aload_n 0, 1) := by decide +kernel
theorem dX1_beStored_32 : decode cX1_beStored 32 = .ok (.iconst 0, 1) := by decide +kernel
theorem dX1_beStored_33 : decode cX1_beStored 33 = .ok (.putfield 19, 3) := by decide +kernel
theorem dX1_beStored_36 : decode cX1_beStored 36 = .ok (.return_, 1) := by decide +kernel
theorem dX1_tell_0 : decode cX1_tell 0 = .ok (.iload_n 1, 1) := by decide +kernel
theorem dX1_tell_1 : decode cX1_tell 1 = .ok (.tableswitch 119 0 4 #[35, 51, 67, 80, 104], 35) := by decide +kernel
theorem dX1_tell_36 : decode cX1_tell 36 = .ok (.aload_n 0, 1) := by decide +kernel
theorem dX1_tell_37 : decode cX1_tell 37 = .ok (.getfield 15, 3) := by decide +kernel
theorem dX1_tell_40 : decode cX1_tell 40 = .ok (.ifCond .eq 10, 3) := by decide +kernel
theorem dX1_tell_43 : decode cX1_tell 43 = .ok (.aload_n 0, 1) := by decide +kernel
theorem dX1_tell_44 : decode cX1_tell 44 = .ok (.getfield 22, 3) := by decide +kernel
theorem dX1_tell_47 : decode cX1_tell 47 = .ok (.goto 4, 3) := by decide +kernel
theorem dX1_tell_50 : decode cX1_tell 50 = .ok (.iconst (-1), 1) := by decide +kernel
theorem dX1_tell_51 : decode cX1_tell 51 = .ok (.ireturn, 1) := by decide +kernel
theorem dX1_tell_52 : decode cX1_tell 52 = .ok (.aload_n 0, 1) := by decide +kernel
theorem dX1_tell_53 : decode cX1_tell 53 = .ok (.getfield 15, 3) := by decide +kernel
theorem dX1_tell_56 : decode cX1_tell 56 = .ok (.ifCond .eq 10, 3) := by decide +kernel
theorem dX1_tell_59 : decode cX1_tell 59 = .ok (.aload_n 0, 1) := by decide +kernel
theorem dX1_tell_60 : decode cX1_tell 60 = .ok (.getfield 28, 3) := by decide +kernel
theorem dX1_tell_63 : decode cX1_tell 63 = .ok (.goto 4, 3) := by decide +kernel
theorem dX1_tell_66 : decode cX1_tell 66 = .ok (.iconst (-1), 1) := by decide +kernel
theorem dX1_tell_67 : decode cX1_tell 67 = .ok (.ireturn, 1) := by decide +kernel
theorem dX1_tell_68 : decode cX1_tell 68 = .ok (.aload_n 0, 1) := by decide +kernel
theorem dX1_tell_69 : decode cX1_tell 69 = .ok (.getfield 19, 3) := by decide +kernel
theorem dX1_tell_72 : decode cX1_tell 72 = .ok (.ifCond .eq 7, 3) := by decide +kernel
theorem dX1_tell_75 : decode cX1_tell 75 = .ok (.iconst 1, 1) := by decide +kernel
theorem dX1_tell_76 : decode cX1_tell 76 = .ok (.goto 4, 3) := by decide +kernel
theorem dX1_tell_79 : decode cX1_tell 79 = .ok (.iconst 0, 1) := by decide +kernel
theorem dX1_tell_80 : decode cX1_tell 80 = .ok (.ireturn, 1) := by decide +kernel
theorem dX1_tell_81 : decode cX1_tell 81 = .ok (.aload_n 0, 1) := by decide +kernel
theorem dX1_tell_82 : decode cX1_tell 82 = .ok (.getfield 15, 3) := by decide +kernel
theorem dX1_tell_85 : decode cX1_tell 85 = .ok (.ifCond .eq 18, 3) := by decide +kernel
theorem dX1_tell_88 : decode cX1_tell 88 = .ok (.iload_n 2, 1) := by decide +kernel
theorem dX1_tell_89 : decode cX1_tell 89 = .ok (.aload_n 0, 1) := by decide +kernel
theorem dX1_tell_90 : decode cX1_tell 90 = .ok (.getfield 9, 3) := by decide +kernel
theorem dX1_tell_93 : decode cX1_tell 93 = .ok (.if_icmp .ge 10, 3) := by decide +kernel
theorem dX1_tell_96 : decode cX1_tell 96 = .ok (.aload_n 0, 1) := by decide +kernel
theorem dX1_tell_97 : decode cX1_tell 97 = .ok (.getfield 9, 3) := by decide +kernel
theorem dX1_tell_100 : decode cX1_tell 100 = .ok (.goto 4, 3) := by decide +kernel
theorem dX1_tell_103 : decode cX1_tell 103 = .ok (.iconst (-1), 1) := by decide +kernel
theorem dX1_tell_104 : decode cX1_tell 104 = .ok (.ireturn, 1) := by decide +kernel
theorem dX1_tell_105 : decode cX1_tell 105 = .ok (.aload_n 0, 1) := by decide +kernel
theorem dX1_tell_106 : decode cX1_tell 106 = .ok (.iload_n 2, 1) := by decide +kernel
theorem dX1_tell_107 : decode cX1_tell 107 = .ok (.iload_n 3, 1) := by decide +kernel
theorem dX1_tell_108 : decode cX1_tell 108 = .ok (.invokevirtual 34, 3) := by decide +kernel
theorem dX1_tell_111 : decode cX1_tell 111 = .ok (.ifCond .eq 7, 3) := by decide +kernel
theorem dX1_tell_114 : decode cX1_tell 114 = .ok (.iconst 1, 1) := by decide +kernel
theorem dX1_tell_115 : decode cX1_tell 115 = .ok (.goto 4, 3) := by decide +kernel
theorem dX1_tell_118 : decode cX1_tell 118 = .ok (.iconst 0, 1) := by decide +kernel
theorem dX1_tell_119 : decode cX1_tell 119 = .ok (.ireturn, 1) := by decide +kernel
theorem dX1_tell_120 : decode cX1_tell 120 = .ok (.aload_n 0, 1) := by decide +kernel
theorem dX1_tell_121 : decode cX1_tell 121 = .ok (.getfield 38, 3) := by decide +kernel
theorem dX1_tell_124 : decode cX1_tell 124 = .ok (.ifCond .eq 7, 3) := by decide +kernel
theorem dX1_tell_127 : decode cX1_tell 127 = .ok (.iconst 1, 1) := by decide +kernel
theorem dX1_tell_128 : decode cX1_tell 128 = .ok (.goto 4, 3) := by decide +kernel
theorem dX1_tell_131 : decode cX1_tell 131 = .ok (.iconst 0, 1) := by decide +kernel
theorem dX1_tell_132 : decode cX1_tell 132 = .ok (.aload_n 0, 1) := by decide +kernel
theorem dX1_tell_133 : decode cX1_tell 133 = .ok (.getfield 31, 3) := by decide +kernel
theorem dX1_tell_136 : decode cX1_tell 136 = .ok (.ifCond .eq 7, 3) := by decide +kernel
theorem dX1_tell_139 : decode cX1_tell 139 = .ok (.iconst 2, 1) := by decide +kernel
theorem dX1_tell_140 : decode cX1_tell 140 = .ok (.goto 4, 3) := by decide +kernel
theorem dX1_tell_143 : decode cX1_tell 143 = .ok (.iconst 0, 1) := by decide +kernel
theorem dX1_tell_144 : decode cX1_tell 144 = .ok (.iadd, 1) := by decide +kernel
theorem dX1_tell_145 : decode cX1_tell 145 = .ok (.ireturn, 1) := by decide +kernel
theorem dX1_copyFrom_0 : decode cX1_copyFrom 0 = .ok (.aload_n 0, 1) := by decide +kernel
theorem dX1_copyFrom_1 : decode cX1_copyFrom 1 = .ok (.aload_n 1, 1) := by decide +kernel
theorem dX1_copyFrom_2 : decode cX1_copyFrom 2 = .ok (.getfield 15, 3) := by decide +kernel
theorem dX1_copyFrom_5 : decode cX1_copyFrom 5 = .ok (.putfield 15, 3) := by decide +kernel
theorem dX1_copyFrom_8 : decode cX1_copyFrom 8 = .ok (.aload_n 0, 1) := by decide +kernel
theorem dX1_copyFrom_9 : decode cX1_copyFrom 9 = .ok (.aload_n 1, 1) := by decide +kernel
theorem dX1_copyFrom_10 : decode cX1_copyFrom 10 = .ok (.getfield 22, 3) := by decide +kernel
theorem dX1_copyFrom_13 : decode cX1_copyFrom 13 = .ok (.putfield 22, 3) := by decide +kernel
theorem dX1_copyFrom_16 : decode cX1_copyFrom 16 = .ok (.aload_n 0, 1) := by decide +kernel
theorem dX1_copyFrom_17 : decode cX1_copyFrom 17 = .ok (.aload_n 1, 1) := by decide +kernel
theorem dX1_copyFrom_18 : decode cX1_copyFrom 18 = .ok (.getfield 28, 3) := by decide +kernel
theorem dX1_copyFrom_21 : decode cX1_copyFrom 21 = .ok (.putfield 28, 3) := by decide +kernel
theorem dX1_copyFrom_24 : decode cX1_copyFrom 24 = .ok (.aload_n 0, 1) := by decide +kernel
theorem dX1_copyFrom_25 : decode cX1_copyFrom 25 = .ok (.aload_n 1, 1) := by decide +kernel
theorem dX1_copyFrom_26 : decode cX1_copyFrom 26 = .ok (.getfield 9, 3) := by decide +kernel
theorem dX1_copyFrom_29 : decode cX1_copyFrom 29 = .ok (.putfield 9, 3) := by decide +kernel
theorem dX1_copyFrom_32 : decode cX1_copyFrom 32 = .ok (.aload_n 0, 1) := by decide +kernel
theorem dX1_copyFrom_33 : decode cX1_copyFrom 33 = .ok (.aload_n 1, 1) := by decide +kernel
theorem dX1_copyFrom_34 : decode cX1_copyFrom 34 = .ok (.getfield 19, 3) := by decide +kernel
theorem dX1_copyFrom_37 : decode cX1_copyFrom 37 = .ok (.putfield 19, 3) := by decide +kernel
theorem dX1_copyFrom_40 : decode cX1_copyFrom 40 = .ok (.aload_n 0, 1) := by decide +kernel
theorem dX1_copyFrom_41 : decode cX1_copyFrom 41 = .ok (.aload_n 1, 1) := by decide +kernel
theorem dX1_copyFrom_42 : decode cX1_copyFrom 42 = .ok (.getfield 25, 3) := by decide +kernel
theorem dX1_copyFrom_45 : decode cX1_copyFrom 45 = .ok (.putfield 25, 3) := by decide +kernel
theorem dX1_copyFrom_48 : decode cX1_copyFrom 48 = .ok (.aload_n 0, 1) := by decide +kernel
theorem dX1_copyFrom_49 : decode cX1_copyFrom 49 = .ok (.aload_n 1, 1) := by decide +kernel
theorem dX1_copyFrom_50 : decode cX1_copyFrom 50 = .ok (.getfield 38, 3) := by decide +kernel
theorem dX1_copyFrom_53 : decode cX1_copyFrom 53 = .ok (.putfield 38, 3) := by decide +kernel
theorem dX1_copyFrom_56 : decode cX1_copyFrom 56 = .ok (.aload_n 0, 1) := by decide +kernel
theorem dX1_copyFrom_57 : decode cX1_copyFrom 57 = .ok (.aload_n 1, 1) := by decide +kernel
theorem dX1_copyFrom_58 : decode cX1_copyFrom 58 = .ok (.getfield 31, 3) := by decide +kernel
theorem dX1_copyFrom_61 : decode cX1_copyFrom 61 = .ok (.putfield 31, 3) := by decide +kernel
theorem dX1_copyFrom_64 : decode cX1_copyFrom 64 = .ok (.return_, 1) := by decide +kernel
theorem dX2_init_0 : decode cX2_init 0 = .ok (.aload_n 0, 1) := by decide +kernel
theorem dX2_init_1 : decode cX2_init 1 = .ok (.invokespecial 3, 3) := by decide +kernel
theorem dX2_init_4 : decode cX2_init 4 = .ok (.aload_n 0, 1) := by decide +kernel
theorem dX2_init_5 : decode cX2_init 5 = .ok (.bipush 20, 2) := by decide +kernel
theorem dX2_init_7 : decode cX2_init 7 = .ok (.putfield 9, 3) := by decide +kernel
theorem dX2_init_10 : decode cX2_init 10 = .ok (.aload_n 0, 1) := by decide +kernel
theorem dX2_init_11 : decode cX2_init 11 = .ok (.iconst 5, 1) := by decide +kernel
theorem dX2_init_12 : decode cX2_init 12 = .ok (.putfield 15, 3) := by decide +kernel
theorem dX2_init_15 : decode cX2_init 15 = .ok (.aload_n 0, 1) := by decide +kernel
theorem dX2_init_16 : decode cX2_init 16 = .ok (.iconst 4, 1) := by decide +kernel
theorem dX2_init_17 : decode cX2_init 17 = .ok (.putfield 18, 3) := by decide +kernel
theorem dX2_init_20 : decode cX2_init 20 = .ok (.aload_n 0, 1) := by decide +kernel
theorem dX2_init_21 : decode cX2_init 21 = .ok (.iconst 4, 1) := by decide +kernel
theorem dX2_init_22 : decode cX2_init 22 = .ok (.anewarray 21, 3) := by decide +kernel
theorem dX2_init_25 : decode cX2_init 25 = .ok (.putfield 23, 3) := by decide +kernel
theorem dX2_init_28 : decode cX2_init 28 = .ok (.aload_n 0, 1) := by decide +kernel
theorem dX2_init_29 : decode cX2_init 29 = .ok (.bipush 12, 2) := by decide +kernel
theorem dX2_init_31 : decode cX2_init 31 = .ok (.anewarray 27, 3) := by decide +kernel
theorem dX2_init_34 : decode cX2_init 34 = .ok (.putfield 29, 3) := by decide +kernel
theorem dX2_init_37 : decode cX2_init 37 = .ok (.aload_n 0, 1) := by decide +kernel
theorem dX2_init_38 : decode cX2_init 38 = .ok (.bipush 9, 2) := by decide +kernel
theorem dX2_init_40 : decode cX2_init 40 = .ok (.anewarray 33, 3) := by decide +kernel
theorem dX2_init_43 : decode cX2_init 43 = .ok (.putfield 35, 3) := by decide +kernel
theorem dX2_init_46 : decode cX2_init 46 = .ok (.iconst 0, 1) := by decide +kernel
theorem dX2_init_47 : decode cX2_init 47 = .ok (.istore_n 1, 1) := by decide +kernel
theorem dX2_init_48 : decode cX2_init 48 = .ok (.iload_n 1, 1) := by decide +kernel
theorem dX2_init_49 : decode cX2_init 49 = .ok (.iconst 4, 1) := by decide +kernel
theorem dX2_init_50 : decode cX2_init 50 = .ok (.if_icmp .ge 22, 3) := by decide +kernel
theorem dX2_init_53 : decode cX2_init 53 = .ok (.aload_n 0, 1) := by decide +kernel
theorem dX2_init_54 : decode cX2_init 54 = .ok (.getfield 23, 3) := by decide +kernel
theorem dX2_init_57 : decode cX2_init 57 = .ok (.iload_n 1, 1) := by decide +kernel
theorem dX2_init_58 : decode cX2_init 58 = .ok (.new 21, 3) := by decide +kernel
theorem dX2_init_61 : decode cX2_init 61 = .ok (.dup, 1) := by decide +kernel
theorem dX2_init_62 : decode cX2_init 62 = .ok (.invokespecial 39, 3) := by decide +kernel
theorem dX2_init_65 : decode cX2_init 65 = .ok (.aastore, 1) := by decide +kernel
theorem dX2_init_66 : decode cX2_init 66 = .ok (.iinc 1 1, 3) := by decide +kernel
theorem dX2_init_69 : decode cX2_init 69 = .ok (.goto (-21), 3) := by decide +kernel
theorem dX2_init_72 : decode cX2_init 72 = .ok (.iconst 0, 1) := by decide +kernel
theorem dX2_init_73 : decode cX2_init 73 = .ok (.istore_n 1, 1) := by decide +kernel
theorem dX2_init_74 : decode cX2_init 74 = .ok (.iload_n 1, 1) := by decide +kernel
theorem dX2_init_75 : decode cX2_init 75 = .ok (.bipush 12, 2) := by decide +kernel
theorem dX2_init_77 : decode cX2_init 77 = .ok (.if_icmp .ge 22, 3) := by decide +kernel
theorem dX2_init_80 : decode cX2_init 80 = .ok (.aload_n 0, 1) := by decide +kernel
theorem dX2_init_81 : decode cX2_init 81 = .ok (.getfield 29, 3) := by decide +kernel
theorem dX2_init_84 : decode cX2_init 84 = .ok (.iload_n 1, 1) := by decide +kernel
theorem dX2_init_85 : decode cX2_init 85 = .ok (.new 27, 3) := by decide +kernel
theorem dX2_init_88 : decode cX2_init 88 = .ok (.dup, 1) := by decide +kernel
theorem dX2_init_89 : decode cX2_init 89 = .ok (.invokespecial 40, 3) := by decide +kernel
theorem dX2_init_92 : decode cX2_init 92 = .ok (.aastore, 1) := by decide +kernel
theorem dX2_init_93 : decode cX2_init 93 = .ok (.iinc 1 1, 3) := by decide +kernel
theorem dX2_init_96 : decode cX2_init 96 = .ok (.goto (-22), 3) := by decide +kernel
theorem dX2_init_99 : decode cX2_init 99 = .ok (.iconst 0, 1) := by decide +kernel
theorem dX2_init_100 : decode cX2_init 100 = .ok (.istore_n 1, 1) := by decide +kernel
theorem dX2_init_101 : decode cX2_init 101 = .ok (.iload_n 1, 1) := by decide +kernel
theorem dX2_init_102 : decode cX2_init 102 = .ok (.bipush 9, 2) := by decide +kernel
theorem dX2_init_104 : decode cX2_init 104 = .ok (.if_icmp .ge 24, 3) := by decide +kernel
theorem dX2_init_107 : decode cX2_init 107 = .ok (.aload_n 0, 1) := by decide +kernel
theorem dX2_init_108 : decode cX2_init 108 = .ok (.getfield 35, 3) := by decide +kernel
theorem dX2_init_111 : decode cX2_init 111 = .ok (.iload_n 1, 1) := by decide +kernel
theorem dX2_init_112 : decode cX2_init 112 = .ok (.new 33, 3) := by decide +kernel
theorem dX2_init_115 : decode cX2_init 115 = .ok (.dup, 1) := by decide +kernel
theorem dX2_init_116 : decode cX2_init 116 = .ok (.bipush 8, 2) := by decide +kernel
theorem dX2_init_118 : decode cX2_init 118 = .ok (.invokespecial 41, 3) := by decide +kernel
theorem dX2_init_121 : decode cX2_init 121 = .ok (.aastore, 1) := by decide +kernel
theorem dX2_init_122 : decode cX2_init 122 = .ok (.iinc 1 1, 3) := by decide +kernel
theorem dX2_init_125 : decode cX2_init 125 = .ok (.goto (-24), 3) := by decide +kernel
theorem dX2_init_128 : decode cX2_init 128 = .ok (.return_, 1) := by decide +kernel
theorem dX2_isClient_0 : decode cX2_isClient 0 = .ok (.iload_n 1, 1) := by decide +kernel
theorem dX2_isClient_1 : decode cX2_isClient 1 = .ok (.ifCond .lt 20, 3) := by decide +kernel
theorem dX2_isClient_4 : decode cX2_isClient 4 = .ok (.iload_n 1, 1) := by decide +kernel
theorem dX2_isClient_5 : decode cX2_isClient 5 = .ok (.aload_n 0, 1) := by decide +kernel
theorem dX2_isClient_6 : decode cX2_isClient 6 = .ok (.getfield 44, 3) := by decide +kernel
theorem dX2_isClient_9 : decode cX2_isClient 9 = .ok (.if_icmp .ge 12, 3) := by decide +kernel
theorem dX2_isClient_12 : decode cX2_isClient 12 = .ok (.iload_n 1, 1) := by decide +kernel
theorem dX2_isClient_13 : decode cX2_isClient 13 = .ok (.iconst 4, 1) := by decide +kernel
theorem dX2_isClient_14 : decode cX2_isClient 14 = .ok (.if_icmp .ge 7, 3) := by decide +kernel
theorem dX2_isClient_17 : decode cX2_isClient 17 = .ok (.iconst 1, 1) := by decide +kernel
theorem dX2_isClient_18 : decode cX2_isClient 18 = .ok (.goto 4, 3) := by decide +kernel
theorem dX2_isClient_21 : decode cX2_isClient 21 = .ok (.iconst 0, 1) := by decide +kernel
theorem dX2_isClient_22 : decode cX2_isClient 22 = .ok (.ireturn, 1) := by decide +kernel
theorem dX2_join_0 : decode cX2_join 0 = .ok (.aload_n 0, 1) := by decide +kernel
theorem dX2_join_1 : decode cX2_join 1 = .ok (.getfield 44, 3) := by decide +kernel
theorem dX2_join_4 : decode cX2_join 4 = .ok (.iconst 4, 1) := by decide +kernel
theorem dX2_join_5 : decode cX2_join 5 = .ok (.if_icmp .lt 5, 3) := by decide +kernel
theorem dX2_join_8 : decode cX2_join 8 = .ok (.iconst (-1), 1) := by decide +kernel
theorem dX2_join_9 : decode cX2_join 9 = .ok (.ireturn, 1) := by decide +kernel
theorem dX2_join_10 : decode cX2_join 10 = .ok (.aload_n 0, 1) := by decide +kernel
theorem dX2_join_11 : decode cX2_join 11 = .ok (.getfield 23, 3) := by decide +kernel
theorem dX2_join_14 : decode cX2_join 14 = .ok (.aload_n 0, 1) := by decide +kernel
theorem dX2_join_15 : decode cX2_join 15 = .ok (.getfield 44, 3) := by decide +kernel
theorem dX2_join_18 : decode cX2_join 18 = .ok (.aaload, 1) := by decide +kernel
theorem dX2_join_19 : decode cX2_join 19 = .ok (.iload_n 1, 1) := by decide +kernel
theorem dX2_join_20 : decode cX2_join 20 = .ok (.putfield 47, 3) := by decide +kernel
theorem dX2_join_23 : decode cX2_join 23 = .ok (.aload_n 0, 1) := by decide +kernel
theorem dX2_join_24 : decode cX2_join 24 = .ok (.getfield 23, 3) := by decide +kernel
theorem dX2_join_27 : decode cX2_join 27 = .ok (.aload_n 0, 1) := by decide +kernel
theorem dX2_join_28 : decode cX2_join 28 = .ok (.getfield 44, 3) := by decide +kernel
theorem dX2_join_31 : decode cX2_join 31 = .ok (.aaload, 1) := by decide +kernel
theorem dX2_join_32 : decode cX2_join 32 = .ok (.iload_n 2, 1) := by decide +kernel
theorem dX2_join_33 : decode cX2_join 33 = .ok (.putfield 50, 3) := by decide +kernel
theorem dX2_join_36 : decode cX2_join 36 = .ok (.aload_n 0, 1) := by decide +kernel
theorem dX2_join_37 : decode cX2_join 37 = .ok (.dup, 1) := by decide +kernel
theorem dX2_join_38 : decode cX2_join 38 = .ok (.getfield 44, 3) := by decide +kernel
theorem dX2_join_41 : decode cX2_join 41 = .ok (.iconst 1, 1) := by decide +kernel
theorem dX2_join_42 : decode cX2_join 42 = .ok (.iadd, 1) := by decide +kernel
theorem dX2_join_43 : decode cX2_join 43 = .ok (.putfield 44, 3) := by decide +kernel
theorem dX2_join_46 : decode cX2_join 46 = .ok (.aload_n 0, 1) := by decide +kernel
theorem dX2_join_47 : decode cX2_join 47 = .ok (.getfield 44, 3) := by decide +kernel
theorem dX2_join_50 : decode cX2_join 50 = .ok (.iconst 1, 1) := by decide +kernel
theorem dX2_join_51 : decode cX2_join 51 = .ok (.isub, 1) := by decide +kernel
theorem dX2_join_52 : decode cX2_join 52 = .ok (.ireturn, 1) := by decide +kernel
theorem dX2_slotAt_0 : decode cX2_slotAt 0 = .ok (.aload_n 0, 1) := by decide +kernel
theorem dX2_slotAt_1 : decode cX2_slotAt 1 = .ok (.getfield 35, 3) := by decide +kernel
theorem dX2_slotAt_4 : decode cX2_slotAt 4 = .ok (.iload_n 1, 1) := by decide +kernel
theorem dX2_slotAt_5 : decode cX2_slotAt 5 = .ok (.bipush 9, 2) := by decide +kernel
theorem dX2_slotAt_7 : decode cX2_slotAt 7 = .ok (.invokestatic 53, 3) := by decide +kernel
theorem dX2_slotAt_10 : decode cX2_slotAt 10 = .ok (.aaload, 1) := by decide +kernel
theorem dX2_slotAt_11 : decode cX2_slotAt 11 = .ok (.areturn, 1) := by decide +kernel
theorem dX2_thingCount_0 : decode cX2_thingCount 0 = .ok (.iconst 0, 1) := by decide +kernel
theorem dX2_thingCount_1 : decode cX2_thingCount 1 = .ok (.istore_n 1, 1) := by decide +kernel
theorem dX2_thingCount_2 : decode cX2_thingCount 2 = .ok (.iconst 0, 1) := by decide +kernel
theorem dX2_thingCount_3 : decode cX2_thingCount 3 = .ok (.istore_n 2, 1) := by decide +kernel
theorem dX2_thingCount_4 : decode cX2_thingCount 4 = .ok (.iload_n 2, 1) := by decide +kernel
theorem dX2_thingCount_5 : decode cX2_thingCount 5 = .ok (.bipush 9, 2) := by decide +kernel
theorem dX2_thingCount_7 : decode cX2_thingCount 7 = .ok (.if_icmp .ge 21, 3) := by decide +kernel
theorem dX2_thingCount_10 : decode cX2_thingCount 10 = .ok (.iload_n 1, 1) := by decide +kernel
theorem dX2_thingCount_11 : decode cX2_thingCount 11 = .ok (.aload_n 0, 1) := by decide +kernel
theorem dX2_thingCount_12 : decode cX2_thingCount 12 = .ok (.getfield 35, 3) := by decide +kernel
theorem dX2_thingCount_15 : decode cX2_thingCount 15 = .ok (.iload_n 2, 1) := by decide +kernel
theorem dX2_thingCount_16 : decode cX2_thingCount 16 = .ok (.aaload, 1) := by decide +kernel
theorem dX2_thingCount_17 : decode cX2_thingCount 17 = .ok (.getfield 59, 3) := by decide +kernel
theorem dX2_thingCount_20 : decode cX2_thingCount 20 = .ok (.iadd, 1) := by decide +kernel
theorem dX2_thingCount_21 : decode cX2_thingCount 21 = .ok (.istore_n 1, 1) := by decide +kernel
theorem dX2_thingCount_22 : decode cX2_thingCount 22 = .ok (.iinc 2 1, 3) := by decide +kernel
theorem dX2_thingCount_25 : decode cX2_thingCount 25 = .ok (.goto (-21), 3) := by decide +kernel
theorem dX2_thingCount_28 : decode cX2_thingCount 28 = .ok (.iload_n 1, 1) := by decide +kernel
theorem dX2_thingCount_29 : decode cX2_thingCount 29 = .ok (.ireturn, 1) := by decide +kernel
theorem dX2_tellThing_0 : decode cX2_tellThing 0 = .ok (.iload_n 1, 1) := by decide +kernel
theorem dX2_tellThing_1 : decode cX2_tellThing 1 = .ok (.istore_n 3, 1) := by decide +kernel
theorem dX2_tellThing_2 : decode cX2_tellThing 2 = .ok (.iconst 1, 1) := by decide +kernel
theorem dX2_tellThing_3 : decode cX2_tellThing 3 = .ok (.istore 4, 2) := by decide +kernel
theorem dX2_tellThing_5 : decode cX2_tellThing 5 = .ok (.iload 4, 2) := by decide +kernel
theorem dX2_tellThing_7 : decode cX2_tellThing 7 = .ok (.bipush 8, 2) := by decide +kernel
theorem dX2_tellThing_9 : decode cX2_tellThing 9 = .ok (.if_icmp .gt 47, 3) := by decide +kernel
theorem dX2_tellThing_12 : decode cX2_tellThing 12 = .ok (.aload_n 0, 1) := by decide +kernel
theorem dX2_tellThing_13 : decode cX2_tellThing 13 = .ok (.aload_n 0, 1) := by decide +kernel
theorem dX2_tellThing_14 : decode cX2_tellThing 14 = .ok (.getfield 62, 3) := by decide +kernel
theorem dX2_tellThing_17 : decode cX2_tellThing 17 = .ok (.iload 4, 2) := by decide +kernel
theorem dX2_tellThing_19 : decode cX2_tellThing 19 = .ok (.iadd, 1) := by decide +kernel
theorem dX2_tellThing_20 : decode cX2_tellThing 20 = .ok (.invokevirtual 65, 3) := by decide +kernel
theorem dX2_tellThing_23 : decode cX2_tellThing 23 = .ok (.astore 5, 2) := by decide +kernel
theorem dX2_tellThing_25 : decode cX2_tellThing 25 = .ok (.iload_n 3, 1) := by decide +kernel
theorem dX2_tellThing_26 : decode cX2_tellThing 26 = .ok (.aload 5, 2) := by decide +kernel
theorem dX2_tellThing_28 : decode cX2_tellThing 28 = .ok (.getfield 59, 3) := by decide +kernel
theorem dX2_tellThing_31 : decode cX2_tellThing 31 = .ok (.if_icmp .ge 11, 3) := by decide +kernel
theorem dX2_tellThing_34 : decode cX2_tellThing 34 = .ok (.aload 5, 2) := by decide +kernel
theorem dX2_tellThing_36 : decode cX2_tellThing 36 = .ok (.iload_n 3, 1) := by decide +kernel
theorem dX2_tellThing_37 : decode cX2_tellThing 37 = .ok (.iload_n 2, 1) := by decide +kernel
theorem dX2_tellThing_38 : decode cX2_tellThing 38 = .ok (.invokevirtual 69, 3) := by decide +kernel
theorem dX2_tellThing_41 : decode cX2_tellThing 41 = .ok (.ireturn, 1) := by decide +kernel
theorem dX2_tellThing_42 : decode cX2_tellThing 42 = .ok (.iload_n 3, 1) := by decide +kernel
theorem dX2_tellThing_43 : decode cX2_tellThing 43 = .ok (.aload 5, 2) := by decide +kernel
theorem dX2_tellThing_45 : decode cX2_tellThing 45 = .ok (.getfield 59, 3) := by decide +kernel
theorem dX2_tellThing_48 : decode cX2_tellThing 48 = .ok (.isub, 1) := by decide +kernel
theorem dX2_tellThing_49 : decode cX2_tellThing 49 = .ok (.istore_n 3, 1) := by decide +kernel
theorem dX2_tellThing_50 : decode cX2_tellThing 50 = .ok (.iinc 4 1, 3) := by decide +kernel
theorem dX2_tellThing_53 : decode cX2_tellThing 53 = .ok (.goto (-48), 3) := by decide +kernel
theorem dX2_tellThing_56 : decode cX2_tellThing 56 = .ok (.iconst 0, 1) := by decide +kernel
theorem dX2_tellThing_57 : decode cX2_tellThing 57 = .ok (.ireturn, 1) := by decide +kernel
theorem dX2_addThingsToDigest_0 : decode cX2_addThingsToDigest 0 = .ok (.lload_n 1, 1) := by decide +kernel
theorem dX2_addThingsToDigest_1 : decode cX2_addThingsToDigest 1 = .ok (.lstore_n 3, 1) := by decide +kernel
theorem dX2_addThingsToDigest_2 : decode cX2_addThingsToDigest 2 = .ok (.iconst 1, 1) := by decide +kernel
theorem dX2_addThingsToDigest_3 : decode cX2_addThingsToDigest 3 = .ok (.istore 5, 2) := by decide +kernel
theorem dX2_addThingsToDigest_5 : decode cX2_addThingsToDigest 5 = .ok (.iload 5, 2) := by decide +kernel
theorem dX2_addThingsToDigest_7 : decode cX2_addThingsToDigest 7 = .ok (.bipush 8, 2) := by decide +kernel
theorem dX2_addThingsToDigest_9 : decode cX2_addThingsToDigest 9 = .ok (.if_icmp .gt 73, 3) := by decide +kernel
theorem dX2_addThingsToDigest_12 : decode cX2_addThingsToDigest 12 = .ok (.aload_n 0, 1) := by decide +kernel
theorem dX2_addThingsToDigest_13 : decode cX2_addThingsToDigest 13 = .ok (.aload_n 0, 1) := by decide +kernel
theorem dX2_addThingsToDigest_14 : decode cX2_addThingsToDigest 14 = .ok (.getfield 62, 3) := by decide +kernel
theorem dX2_addThingsToDigest_17 : decode cX2_addThingsToDigest 17 = .ok (.iload 5, 2) := by decide +kernel
theorem dX2_addThingsToDigest_19 : decode cX2_addThingsToDigest 19 = .ok (.iadd, 1) := by decide +kernel
theorem dX2_addThingsToDigest_20 : decode cX2_addThingsToDigest 20 = .ok (.invokevirtual 65, 3) := by decide +kernel
theorem dX2_addThingsToDigest_23 : decode cX2_addThingsToDigest 23 = .ok (.astore 6, 2) := by decide +kernel
theorem dX2_addThingsToDigest_25 : decode cX2_addThingsToDigest 25 = .ok (.iconst 0, 1) := by decide +kernel
theorem dX2_addThingsToDigest_26 : decode cX2_addThingsToDigest 26 = .ok (.istore 7, 2) := by decide +kernel
theorem dX2_addThingsToDigest_28 : decode cX2_addThingsToDigest 28 = .ok (.iload 7, 2) := by decide +kernel
theorem dX2_addThingsToDigest_30 : decode cX2_addThingsToDigest 30 = .ok (.aload 6, 2) := by decide +kernel
theorem dX2_addThingsToDigest_32 : decode cX2_addThingsToDigest 32 = .ok (.getfield 59, 3) := by decide +kernel
theorem dX2_addThingsToDigest_35 : decode cX2_addThingsToDigest 35 = .ok (.if_icmp .ge 41, 3) := by decide +kernel
theorem dX2_addThingsToDigest_38 : decode cX2_addThingsToDigest 38 = .ok (.iconst 0, 1) := by decide +kernel
theorem dX2_addThingsToDigest_39 : decode cX2_addThingsToDigest 39 = .ok (.istore 8, 2) := by decide +kernel
theorem dX2_addThingsToDigest_41 : decode cX2_addThingsToDigest 41 = .ok (.iload 8, 2) := by decide +kernel
theorem dX2_addThingsToDigest_43 : decode cX2_addThingsToDigest 43 = .ok (.iconst 3, 1) := by decide +kernel
theorem dX2_addThingsToDigest_44 : decode cX2_addThingsToDigest 44 = .ok (.if_icmp .gt 26, 3) := by decide +kernel
theorem dX2_addThingsToDigest_47 : decode cX2_addThingsToDigest 47 = .ok (.lload_n 3, 1) := by decide +kernel
theorem dX2_addThingsToDigest_48 : decode cX2_addThingsToDigest 48 = .ok (.ldc2_w 72, 3) := by decide +kernel
theorem dX2_addThingsToDigest_51 : decode cX2_addThingsToDigest 51 = .ok (.lmul, 1) := by decide +kernel
theorem dX2_addThingsToDigest_52 : decode cX2_addThingsToDigest 52 = .ok (.aload 6, 2) := by decide +kernel
theorem dX2_addThingsToDigest_54 : decode cX2_addThingsToDigest 54 = .ok (.iload 7, 2) := by decide +kernel
theorem dX2_addThingsToDigest_56 : decode cX2_addThingsToDigest 56 = .ok (.iload 8, 2) := by decide +kernel
theorem dX2_addThingsToDigest_58 : decode cX2_addThingsToDigest 58 = .ok (.invokevirtual 69, 3) := by decide +kernel
theorem dX2_addThingsToDigest_61 : decode cX2_addThingsToDigest 61 = .ok (.i2l, 1) := by decide +kernel
theorem dX2_addThingsToDigest_62 : decode cX2_addThingsToDigest 62 = .ok (.ladd, 1) := by decide +kernel
theorem dX2_addThingsToDigest_63 : decode cX2_addThingsToDigest 63 = .ok (.lstore_n 3, 1) := by decide +kernel
theorem dX2_addThingsToDigest_64 : decode cX2_addThingsToDigest 64 = .ok (.iinc 8 1, 3) := by decide +kernel
theorem dX2_addThingsToDigest_67 : decode cX2_addThingsToDigest 67 = .ok (.goto (-26), 3) := by decide +kernel
theorem dX2_addThingsToDigest_70 : decode cX2_addThingsToDigest 70 = .ok (.iinc 7 1, 3) := by decide +kernel
theorem dX2_addThingsToDigest_73 : decode cX2_addThingsToDigest 73 = .ok (.goto (-45), 3) := by decide +kernel
theorem dX2_addThingsToDigest_76 : decode cX2_addThingsToDigest 76 = .ok (.iinc 5 1, 3) := by decide +kernel
theorem dX2_addThingsToDigest_79 : decode cX2_addThingsToDigest 79 = .ok (.goto (-74), 3) := by decide +kernel
theorem dX2_addThingsToDigest_82 : decode cX2_addThingsToDigest 82 = .ok (.lload_n 3, 1) := by decide +kernel
theorem dX2_addThingsToDigest_83 : decode cX2_addThingsToDigest 83 = .ok (.lreturn, 1) := by decide +kernel
theorem dX2_send_0 : decode cX2_send 0 = .ok (.aload_n 0, 1) := by decide +kernel
theorem dX2_send_1 : decode cX2_send 1 = .ok (.getfield 62, 3) := by decide +kernel
theorem dX2_send_4 : decode cX2_send 4 = .ok (.aload_n 0, 1) := by decide +kernel
theorem dX2_send_5 : decode cX2_send 5 = .ok (.getfield 23, 3) := by decide +kernel
theorem dX2_send_8 : decode cX2_send 8 = .ok (.iload_n 2, 1) := by decide +kernel
theorem dX2_send_9 : decode cX2_send 9 = .ok (.aaload, 1) := by decide +kernel
theorem dX2_send_10 : decode cX2_send 10 = .ok (.getfield 47, 3) := by decide +kernel
theorem dX2_send_13 : decode cX2_send 13 = .ok (.iadd, 1) := by decide +kernel
theorem dX2_send_14 : decode cX2_send 14 = .ok (.istore 7, 2) := by decide +kernel
theorem dX2_send_16 : decode cX2_send 16 = .ok (.aload_n 0, 1) := by decide +kernel
theorem dX2_send_17 : decode cX2_send 17 = .ok (.iload 7, 2) := by decide +kernel
theorem dX2_send_19 : decode cX2_send 19 = .ok (.invokevirtual 65, 3) := by decide +kernel
theorem dX2_send_22 : decode cX2_send 22 = .ok (.astore 8, 2) := by decide +kernel
theorem dX2_send_24 : decode cX2_send 24 = .ok (.aload 8, 2) := by decide +kernel
theorem dX2_send_26 : decode cX2_send 26 = .ok (.invokevirtual 74, 3) := by decide +kernel
theorem dX2_send_29 : decode cX2_send 29 = .ok (.istore 9, 2) := by decide +kernel
theorem dX2_send_31 : decode cX2_send 31 = .ok (.aload 8, 2) := by decide +kernel
theorem dX2_send_33 : decode cX2_send 33 = .ok (.iload 9, 2) := by decide +kernel
theorem dX2_send_35 : decode cX2_send 35 = .ok (.iconst 0, 1) := by decide +kernel
theorem dX2_send_36 : decode cX2_send 36 = .ok (.iload_n 2, 1) := by decide +kernel
theorem dX2_send_37 : decode cX2_send 37 = .ok (.invokevirtual 78, 3) := by decide +kernel
theorem dX2_send_40 : decode cX2_send 40 = .ok (.aload 8, 2) := by decide +kernel
theorem dX2_send_42 : decode cX2_send 42 = .ok (.iload 9, 2) := by decide +kernel
theorem dX2_send_44 : decode cX2_send 44 = .ok (.iconst 1, 1) := by decide +kernel
theorem dX2_send_45 : decode cX2_send 45 = .ok (.iload_n 1, 1) := by decide +kernel
theorem dX2_send_46 : decode cX2_send 46 = .ok (.invokevirtual 78, 3) := by decide +kernel
theorem dX2_send_49 : decode cX2_send 49 = .ok (.aload 8, 2) := by decide +kernel
theorem dX2_send_51 : decode cX2_send 51 = .ok (.iload 9, 2) := by decide +kernel
theorem dX2_send_53 : decode cX2_send 53 = .ok (.iconst 2, 1) := by decide +kernel
theorem dX2_send_54 : decode cX2_send 54 = .ok (.iload_n 3, 1) := by decide +kernel
theorem dX2_send_55 : decode cX2_send 55 = .ok (.invokevirtual 78, 3) := by decide +kernel
theorem dX2_send_58 : decode cX2_send 58 = .ok (.aload 8, 2) := by decide +kernel
theorem dX2_send_60 : decode cX2_send 60 = .ok (.iload 9, 2) := by decide +kernel
theorem dX2_send_62 : decode cX2_send 62 = .ok (.iconst 3, 1) := by decide +kernel
theorem dX2_send_63 : decode cX2_send 63 = .ok (.iload 7, 2) := by decide +kernel
theorem dX2_send_65 : decode cX2_send 65 = .ok (.invokevirtual 78, 3) := by decide +kernel
theorem dX2_send_68 : decode cX2_send 68 = .ok (.aload 8, 2) := by decide +kernel
theorem dX2_send_70 : decode cX2_send 70 = .ok (.iload 9, 2) := by decide +kernel
theorem dX2_send_72 : decode cX2_send 72 = .ok (.iconst 4, 1) := by decide +kernel
theorem dX2_send_73 : decode cX2_send 73 = .ok (.iload 4, 2) := by decide +kernel
theorem dX2_send_75 : decode cX2_send 75 = .ok (.invokevirtual 78, 3) := by decide +kernel
theorem dX2_send_78 : decode cX2_send 78 = .ok (.aload 8, 2) := by decide +kernel
theorem dX2_send_80 : decode cX2_send 80 = .ok (.iload 9, 2) := by decide +kernel
theorem dX2_send_82 : decode cX2_send 82 = .ok (.iconst 5, 1) := by decide +kernel
theorem dX2_send_83 : decode cX2_send 83 = .ok (.iload 5, 2) := by decide +kernel
theorem dX2_send_85 : decode cX2_send 85 = .ok (.invokevirtual 78, 3) := by decide +kernel
theorem dX2_send_88 : decode cX2_send 88 = .ok (.aload 8, 2) := by decide +kernel
theorem dX2_send_90 : decode cX2_send 90 = .ok (.iload 9, 2) := by decide +kernel
theorem dX2_send_92 : decode cX2_send 92 = .ok (.bipush 6, 2) := by decide +kernel
theorem dX2_send_94 : decode cX2_send 94 = .ok (.iload 6, 2) := by decide +kernel
theorem dX2_send_96 : decode cX2_send 96 = .ok (.invokevirtual 78, 3) := by decide +kernel
theorem dX2_send_99 : decode cX2_send 99 = .ok (.aload 8, 2) := by decide +kernel
theorem dX2_send_101 : decode cX2_send 101 = .ok (.iload 9, 2) := by decide +kernel
theorem dX2_send_103 : decode cX2_send 103 = .ok (.bipush 7, 2) := by decide +kernel
theorem dX2_send_105 : decode cX2_send 105 = .ok (.aload_n 0, 1) := by decide +kernel
theorem dX2_send_106 : decode cX2_send 106 = .ok (.getfield 23, 3) := by decide +kernel
theorem dX2_send_109 : decode cX2_send 109 = .ok (.iload_n 2, 1) := by decide +kernel
theorem dX2_send_110 : decode cX2_send 110 = .ok (.aaload, 1) := by decide +kernel
theorem dX2_send_111 : decode cX2_send 111 = .ok (.getfield 82, 3) := by decide +kernel
theorem dX2_send_114 : decode cX2_send 114 = .ok (.ifCond .eq 7, 3) := by decide +kernel
theorem dX2_send_117 : decode cX2_send 117 = .ok (.iconst 1, 1) := by decide +kernel
theorem dX2_send_118 : decode cX2_send 118 = .ok (.goto 4, 3) := by decide +kernel
theorem dX2_send_121 : decode cX2_send 121 = .ok (.iconst 0, 1) := by decide +kernel
theorem dX2_send_122 : decode cX2_send 122 = .ok (.invokevirtual 78, 3) := by decide +kernel
theorem dX2_send_125 : decode cX2_send 125 = .ok (.return_, 1) := by decide +kernel
theorem dX2_sendStore_0 : decode cX2_sendStore 0 = .ok (.aload_n 0, 1) := by decide +kernel
theorem dX2_sendStore_1 : decode cX2_sendStore 1 = .ok (.getfield 23, 3) := by decide +kernel
theorem dX2_sendStore_4 : decode cX2_sendStore 4 = .ok (.iload_n 1, 1) := by decide +kernel
theorem dX2_sendStore_5 : decode cX2_sendStore 5 = .ok (.aaload, 1) := by decide +kernel
theorem dX2_sendStore_6 : decode cX2_sendStore 6 = .ok (.getfield 86, 3) := by decide +kernel
theorem dX2_sendStore_9 : decode cX2_sendStore 9 = .ok (.iload_n 2, 1) := by decide +kernel
theorem dX2_sendStore_10 : decode cX2_sendStore 10 = .ok (.aaload, 1) := by decide +kernel
theorem dX2_sendStore_11 : decode cX2_sendStore 11 = .ok (.astore_n 3, 1) := by decide +kernel
theorem dX2_sendStore_12 : decode cX2_sendStore 12 = .ok (.aload_n 3, 1) := by decide +kernel
theorem dX2_sendStore_13 : decode cX2_sendStore 13 = .ok (.iconst 1, 1) := by decide +kernel
theorem dX2_sendStore_14 : decode cX2_sendStore 14 = .ok (.putfield 90, 3) := by decide +kernel
theorem dX2_sendStore_17 : decode cX2_sendStore 17 = .ok (.aload_n 0, 1) := by decide +kernel
theorem dX2_sendStore_18 : decode cX2_sendStore 18 = .ok (.iconst 1, 1) := by decide +kernel
theorem dX2_sendStore_19 : decode cX2_sendStore 19 = .ok (.iload_n 1, 1) := by decide +kernel
theorem dX2_sendStore_20 : decode cX2_sendStore 20 = .ok (.iload_n 2, 1) := by decide +kernel
theorem dX2_sendStore_21 : decode cX2_sendStore 21 = .ok (.aload_n 3, 1) := by decide +kernel
theorem dX2_sendStore_22 : decode cX2_sendStore 22 = .ok (.getfield 95, 3) := by decide +kernel
theorem dX2_sendStore_25 : decode cX2_sendStore 25 = .ok (.aload_n 3, 1) := by decide +kernel
theorem dX2_sendStore_26 : decode cX2_sendStore 26 = .ok (.getfield 98, 3) := by decide +kernel
theorem dX2_sendStore_29 : decode cX2_sendStore 29 = .ok (.iconst 0, 1) := by decide +kernel
theorem dX2_sendStore_30 : decode cX2_sendStore 30 = .ok (.invokevirtual 101, 3) := by decide +kernel
theorem dX2_sendStore_33 : decode cX2_sendStore 33 = .ok (.return_, 1) := by decide +kernel
theorem dX2_reach_0 : decode cX2_reach 0 = .ok (.aload_n 0, 1) := by decide +kernel
theorem dX2_reach_1 : decode cX2_reach 1 = .ok (.getfield 23, 3) := by decide +kernel
theorem dX2_reach_4 : decode cX2_reach 4 = .ok (.iload_n 1, 1) := by decide +kernel
theorem dX2_reach_5 : decode cX2_reach 5 = .ok (.aaload, 1) := by decide +kernel
theorem dX2_reach_6 : decode cX2_reach 6 = .ok (.astore_n 3, 1) := by decide +kernel
theorem dX2_reach_7 : decode cX2_reach 7 = .ok (.aload_n 3, 1) := by decide +kernel
theorem dX2_reach_8 : decode cX2_reach 8 = .ok (.getfield 86, 3) := by decide +kernel
theorem dX2_reach_11 : decode cX2_reach 11 = .ok (.iload_n 2, 1) := by decide +kernel
theorem dX2_reach_12 : decode cX2_reach 12 = .ok (.aaload, 1) := by decide +kernel
theorem dX2_reach_13 : decode cX2_reach 13 = .ok (.astore 4, 2) := by decide +kernel
theorem dX2_reach_15 : decode cX2_reach 15 = .ok (.aload 4, 2) := by decide +kernel
theorem dX2_reach_17 : decode cX2_reach 17 = .ok (.aload_n 0, 1) := by decide +kernel
theorem dX2_reach_18 : decode cX2_reach 18 = .ok (.getfield 62, 3) := by decide +kernel
theorem dX2_reach_21 : decode cX2_reach 21 = .ok (.aload_n 3, 1) := by decide +kernel
theorem dX2_reach_22 : decode cX2_reach 22 = .ok (.getfield 82, 3) := by decide +kernel
theorem dX2_reach_25 : decode cX2_reach 25 = .ok (.invokevirtual 105, 3) := by decide +kernel
theorem dX2_reach_28 : decode cX2_reach 28 = .ok (.ifCond .eq 20, 3) := by decide +kernel
theorem dX2_reach_31 : decode cX2_reach 31 = .ok (.aload_n 3, 1) := by decide +kernel
theorem dX2_reach_32 : decode cX2_reach 32 = .ok (.dup, 1) := by decide +kernel
theorem dX2_reach_33 : decode cX2_reach 33 = .ok (.getfield 109, 3) := by decide +kernel
theorem dX2_reach_36 : decode cX2_reach 36 = .ok (.iconst 1, 1) := by decide +kernel
theorem dX2_reach_37 : decode cX2_reach 37 = .ok (.iadd, 1) := by decide +kernel
theorem dX2_reach_38 : decode cX2_reach 38 = .ok (.putfield 109, 3) := by decide +kernel
theorem dX2_reach_41 : decode cX2_reach 41 = .ok (.aload_n 3, 1) := by decide +kernel
theorem dX2_reach_42 : decode cX2_reach 42 = .ok (.iload_n 2, 1) := by decide +kernel
theorem dX2_reach_43 : decode cX2_reach 43 = .ok (.invokevirtual 112, 3) := by decide +kernel
theorem dX2_reach_46 : decode cX2_reach 46 = .ok (.iconst 1, 1) := by decide +kernel
theorem dX2_reach_47 : decode cX2_reach 47 = .ok (.ireturn, 1) := by decide +kernel
theorem dX2_reach_48 : decode cX2_reach 48 = .ok (.aload_n 3, 1) := by decide +kernel
theorem dX2_reach_49 : decode cX2_reach 49 = .ok (.dup, 1) := by decide +kernel
theorem dX2_reach_50 : decode cX2_reach 50 = .ok (.getfield 115, 3) := by decide +kernel
theorem dX2_reach_53 : decode cX2_reach 53 = .ok (.iconst 1, 1) := by decide +kernel
theorem dX2_reach_54 : decode cX2_reach 54 = .ok (.iadd, 1) := by decide +kernel
theorem dX2_reach_55 : decode cX2_reach 55 = .ok (.putfield 115, 3) := by decide +kernel
theorem dX2_reach_58 : decode cX2_reach 58 = .ok (.aload_n 3, 1) := by decide +kernel
theorem dX2_reach_59 : decode cX2_reach 59 = .ok (.getfield 82, 3) := by decide +kernel
theorem dX2_reach_62 : decode cX2_reach 62 = .ok (.ifCond .ne 27, 3) := by decide +kernel
theorem dX2_reach_65 : decode cX2_reach 65 = .ok (.aload 4, 2) := by decide +kernel
theorem dX2_reach_67 : decode cX2_reach 67 = .ok (.getfield 118, 3) := by decide +kernel
theorem dX2_reach_70 : decode cX2_reach 70 = .ok (.ifCond .ne 19, 3) := by decide +kernel
theorem dX2_reach_73 : decode cX2_reach 73 = .ok (.aload 4, 2) := by decide +kernel
theorem dX2_reach_75 : decode cX2_reach 75 = .ok (.iconst 1, 1) := by decide +kernel
theorem dX2_reach_76 : decode cX2_reach 76 = .ok (.putfield 118, 3) := by decide +kernel
theorem dX2_reach_79 : decode cX2_reach 79 = .ok (.aload_n 0, 1) := by decide +kernel
theorem dX2_reach_80 : decode cX2_reach 80 = .ok (.iconst 0, 1) := by decide +kernel
theorem dX2_reach_81 : decode cX2_reach 81 = .ok (.iload_n 1, 1) := by decide +kernel
theorem dX2_reach_82 : decode cX2_reach 82 = .ok (.iload_n 2, 1) := by decide +kernel
theorem dX2_reach_83 : decode cX2_reach 83 = .ok (.iconst 0, 1) := by decide +kernel
theorem dX2_reach_84 : decode cX2_reach 84 = .ok (.iconst 0, 1) := by decide +kernel
theorem dX2_reach_85 : decode cX2_reach 85 = .ok (.iconst 0, 1) := by decide +kernel
theorem dX2_reach_86 : decode cX2_reach 86 = .ok (.invokevirtual 101, 3) := by decide +kernel
theorem dX2_reach_89 : decode cX2_reach 89 = .ok (.iconst 0, 1) := by decide +kernel
theorem dX2_reach_90 : decode cX2_reach 90 = .ok (.ireturn, 1) := by decide +kernel
theorem dX2_mendLine_0 : decode cX2_mendLine 0 = .ok (.aload_n 0, 1) := by decide +kernel
theorem dX2_mendLine_1 : decode cX2_mendLine 1 = .ok (.getfield 23, 3) := by decide +kernel
theorem dX2_mendLine_4 : decode cX2_mendLine 4 = .ok (.iload_n 1, 1) := by decide +kernel
theorem dX2_mendLine_5 : decode cX2_mendLine 5 = .ok (.aaload, 1) := by decide +kernel
theorem dX2_mendLine_6 : decode cX2_mendLine 6 = .ok (.astore_n 2, 1) := by decide +kernel
theorem dX2_mendLine_7 : decode cX2_mendLine 7 = .ok (.aload_n 2, 1) := by decide +kernel
theorem dX2_mendLine_8 : decode cX2_mendLine 8 = .ok (.getfield 82, 3) := by decide +kernel
theorem dX2_mendLine_11 : decode cX2_mendLine 11 = .ok (.ifCond .ne 5, 3) := by decide +kernel
theorem dX2_mendLine_14 : decode cX2_mendLine 14 = .ok (.iconst 0, 1) := by decide +kernel
theorem dX2_mendLine_15 : decode cX2_mendLine 15 = .ok (.ireturn, 1) := by decide +kernel
theorem dX2_mendLine_16 : decode cX2_mendLine 16 = .ok (.aload_n 2, 1) := by decide +kernel
theorem dX2_mendLine_17 : decode cX2_mendLine 17 = .ok (.iconst 0, 1) := by decide +kernel
theorem dX2_mendLine_18 : decode cX2_mendLine 18 = .ok (.putfield 82, 3) := by decide +kernel
theorem dX2_mendLine_21 : decode cX2_mendLine 21 = .ok (.aload_n 2, 1) := by decide +kernel
theorem dX2_mendLine_22 : decode cX2_mendLine 22 = .ok (.invokevirtual 121, 3) := by decide +kernel
theorem dX2_mendLine_25 : decode cX2_mendLine 25 = .ok (.iconst 0, 1) := by decide +kernel
theorem dX2_mendLine_26 : decode cX2_mendLine 26 = .ok (.istore_n 3, 1) := by decide +kernel
theorem dX2_mendLine_27 : decode cX2_mendLine 27 = .ok (.iconst 0, 1) := by decide +kernel
theorem dX2_mendLine_28 : decode cX2_mendLine 28 = .ok (.istore 4, 2) := by decide +kernel
theorem dX2_mendLine_30 : decode cX2_mendLine 30 = .ok (.iload 4, 2) := by decide +kernel
theorem dX2_mendLine_32 : decode cX2_mendLine 32 = .ok (.bipush 12, 2) := by decide +kernel
theorem dX2_mendLine_34 : decode cX2_mendLine 34 = .ok (.if_icmp .ge 34, 3) := by decide +kernel
theorem dX2_mendLine_37 : decode cX2_mendLine 37 = .ok (.aload_n 2, 1) := by decide +kernel
theorem dX2_mendLine_38 : decode cX2_mendLine 38 = .ok (.invokevirtual 124, 3) := by decide +kernel
theorem dX2_mendLine_41 : decode cX2_mendLine 41 = .ok (.istore 5, 2) := by decide +kernel
theorem dX2_mendLine_43 : decode cX2_mendLine 43 = .ok (.iload 5, 2) := by decide +kernel
theorem dX2_mendLine_45 : decode cX2_mendLine 45 = .ok (.iconst (-1), 1) := by decide +kernel
theorem dX2_mendLine_46 : decode cX2_mendLine 46 = .ok (.if_icmp .ne 6, 3) := by decide +kernel
theorem dX2_mendLine_49 : decode cX2_mendLine 49 = .ok (.goto 19, 3) := by decide +kernel
theorem dX2_mendLine_52 : decode cX2_mendLine 52 = .ok (.aload_n 0, 1) := by decide +kernel
theorem dX2_mendLine_53 : decode cX2_mendLine 53 = .ok (.iload_n 1, 1) := by decide +kernel
theorem dX2_mendLine_54 : decode cX2_mendLine 54 = .ok (.iload 5, 2) := by decide +kernel
theorem dX2_mendLine_56 : decode cX2_mendLine 56 = .ok (.invokevirtual 127, 3) := by decide +kernel
theorem dX2_mendLine_59 : decode cX2_mendLine 59 = .ok (.iinc 3 1, 3) := by decide +kernel
theorem dX2_mendLine_62 : decode cX2_mendLine 62 = .ok (.iinc 4 1, 3) := by decide +kernel
theorem dX2_mendLine_65 : decode cX2_mendLine 65 = .ok (.goto (-35), 3) := by decide +kernel
theorem dX2_mendLine_68 : decode cX2_mendLine 68 = .ok (.iload_n 3, 1) := by decide +kernel
theorem dX2_mendLine_69 : decode cX2_mendLine 69 = .ok (.ireturn, 1) := by decide +kernel
theorem dX2_sendDirty_0 : decode cX2_sendDirty 0 = .ok (.aload_n 0, 1) := by decide +kernel
theorem dX2_sendDirty_1 : decode cX2_sendDirty 1 = .ok (.getfield 23, 3) := by decide +kernel
theorem dX2_sendDirty_4 : decode cX2_sendDirty 4 = .ok (.iload_n 1, 1) := by decide +kernel
theorem dX2_sendDirty_5 : decode cX2_sendDirty 5 = .ok (.aaload, 1) := by decide +kernel
theorem dX2_sendDirty_6 : decode cX2_sendDirty 6 = .ok (.astore_n 3, 1) := by decide +kernel
theorem dX2_sendDirty_7 : decode cX2_sendDirty 7 = .ok (.aload_n 3, 1) := by decide +kernel
theorem dX2_sendDirty_8 : decode cX2_sendDirty 8 = .ok (.getfield 82, 3) := by decide +kernel
theorem dX2_sendDirty_11 : decode cX2_sendDirty 11 = .ok (.ifCond .eq 5, 3) := by decide +kernel
theorem dX2_sendDirty_14 : decode cX2_sendDirty 14 = .ok (.iconst 0, 1) := by decide +kernel
theorem dX2_sendDirty_15 : decode cX2_sendDirty 15 = .ok (.ireturn, 1) := by decide +kernel
theorem dX2_sendDirty_16 : decode cX2_sendDirty 16 = .ok (.iconst 0, 1) := by decide +kernel
theorem dX2_sendDirty_17 : decode cX2_sendDirty 17 = .ok (.istore 4, 2) := by decide +kernel
theorem dX2_sendDirty_19 : decode cX2_sendDirty 19 = .ok (.iconst 0, 1) := by decide +kernel
theorem dX2_sendDirty_20 : decode cX2_sendDirty 20 = .ok (.istore 5, 2) := by decide +kernel
theorem dX2_sendDirty_22 : decode cX2_sendDirty 22 = .ok (.iload 5, 2) := by decide +kernel
theorem dX2_sendDirty_24 : decode cX2_sendDirty 24 = .ok (.bipush 12, 2) := by decide +kernel
theorem dX2_sendDirty_26 : decode cX2_sendDirty 26 = .ok (.if_icmp .ge 58, 3) := by decide +kernel
theorem dX2_sendDirty_29 : decode cX2_sendDirty 29 = .ok (.aload_n 3, 1) := by decide +kernel
theorem dX2_sendDirty_30 : decode cX2_sendDirty 30 = .ok (.getfield 86, 3) := by decide +kernel
theorem dX2_sendDirty_33 : decode cX2_sendDirty 33 = .ok (.iload 5, 2) := by decide +kernel
theorem dX2_sendDirty_35 : decode cX2_sendDirty 35 = .ok (.aaload, 1) := by decide +kernel
theorem dX2_sendDirty_36 : decode cX2_sendDirty 36 = .ok (.astore 6, 2) := by decide +kernel
theorem dX2_sendDirty_38 : decode cX2_sendDirty 38 = .ok (.aload 6, 2) := by decide +kernel
theorem dX2_sendDirty_40 : decode cX2_sendDirty 40 = .ok (.getfield 131, 3) := by decide +kernel
theorem dX2_sendDirty_43 : decode cX2_sendDirty 43 = .ok (.ifCond .eq 35, 3) := by decide +kernel
theorem dX2_sendDirty_46 : decode cX2_sendDirty 46 = .ok (.aload 6, 2) := by decide +kernel
theorem dX2_sendDirty_48 : decode cX2_sendDirty 48 = .ok (.getfield 90, 3) := by decide +kernel
theorem dX2_sendDirty_51 : decode cX2_sendDirty 51 = .ok (.ifCond .ne 27, 3) := by decide +kernel
theorem dX2_sendDirty_54 : decode cX2_sendDirty 54 = .ok (.aload_n 0, 1) := by decide +kernel
theorem dX2_sendDirty_55 : decode cX2_sendDirty 55 = .ok (.getfield 62, 3) := by decide +kernel
theorem dX2_sendDirty_58 : decode cX2_sendDirty 58 = .ok (.aload 6, 2) := by decide +kernel
theorem dX2_sendDirty_60 : decode cX2_sendDirty 60 = .ok (.getfield 134, 3) := by decide +kernel
theorem dX2_sendDirty_63 : decode cX2_sendDirty 63 = .ok (.isub, 1) := by decide +kernel
theorem dX2_sendDirty_64 : decode cX2_sendDirty 64 = .ok (.iload_n 2, 1) := by decide +kernel
theorem dX2_sendDirty_65 : decode cX2_sendDirty 65 = .ok (.if_icmp .lt 13, 3) := by decide +kernel
theorem dX2_sendDirty_68 : decode cX2_sendDirty 68 = .ok (.aload_n 0, 1) := by decide +kernel
theorem dX2_sendDirty_69 : decode cX2_sendDirty 69 = .ok (.iload_n 1, 1) := by decide +kernel
theorem dX2_sendDirty_70 : decode cX2_sendDirty 70 = .ok (.iload 5, 2) := by decide +kernel
theorem dX2_sendDirty_72 : decode cX2_sendDirty 72 = .ok (.invokevirtual 127, 3) := by decide +kernel
theorem dX2_sendDirty_75 : decode cX2_sendDirty 75 = .ok (.iinc 4 1, 3) := by decide +kernel
theorem dX2_sendDirty_78 : decode cX2_sendDirty 78 = .ok (.iinc 5 1, 3) := by decide +kernel
theorem dX2_sendDirty_81 : decode cX2_sendDirty 81 = .ok (.goto (-59), 3) := by decide +kernel
theorem dX2_sendDirty_84 : decode cX2_sendDirty 84 = .ok (.iload 4, 2) := by decide +kernel
theorem dX2_sendDirty_86 : decode cX2_sendDirty 86 = .ok (.ireturn, 1) := by decide +kernel
theorem dX2_passTick_0 : decode cX2_passTick 0 = .ok (.aload_n 0, 1) := by decide +kernel
theorem dX2_passTick_1 : decode cX2_passTick 1 = .ok (.dup, 1) := by decide +kernel
theorem dX2_passTick_2 : decode cX2_passTick 2 = .ok (.getfield 62, 3) := by decide +kernel
theorem dX2_passTick_5 : decode cX2_passTick 5 = .ok (.iconst 1, 1) := by decide +kernel
theorem dX2_passTick_6 : decode cX2_passTick 6 = .ok (.iadd, 1) := by decide +kernel
theorem dX2_passTick_7 : decode cX2_passTick 7 = .ok (.putfield 62, 3) := by decide +kernel
theorem dX2_passTick_10 : decode cX2_passTick 10 = .ok (.aload_n 0, 1) := by decide +kernel
theorem dX2_passTick_11 : decode cX2_passTick 11 = .ok (.aload_n 0, 1) := by decide +kernel
theorem dX2_passTick_12 : decode cX2_passTick 12 = .ok (.getfield 62, 3) := by decide +kernel
theorem dX2_passTick_15 : decode cX2_passTick 15 = .ok (.invokevirtual 65, 3) := by decide +kernel
theorem dX2_passTick_18 : decode cX2_passTick 18 = .ok (.astore_n 1, 1) := by decide +kernel
theorem dX2_passTick_19 : decode cX2_passTick 19 = .ok (.aload_n 1, 1) := by decide +kernel
theorem dX2_passTick_20 : decode cX2_passTick 20 = .ok (.getfield 59, 3) := by decide +kernel
theorem dX2_passTick_23 : decode cX2_passTick 23 = .ok (.istore_n 2, 1) := by decide +kernel
theorem dX2_passTick_24 : decode cX2_passTick 24 = .ok (.iconst 0, 1) := by decide +kernel
theorem dX2_passTick_25 : decode cX2_passTick 25 = .ok (.istore_n 3, 1) := by decide +kernel
theorem dX2_passTick_26 : decode cX2_passTick 26 = .ok (.iload_n 3, 1) := by decide +kernel
theorem dX2_passTick_27 : decode cX2_passTick 27 = .ok (.iload_n 2, 1) := by decide +kernel
theorem dX2_passTick_28 : decode cX2_passTick 28 = .ok (.if_icmp .ge 15, 3) := by decide +kernel
theorem dX2_passTick_31 : decode cX2_passTick 31 = .ok (.aload_n 0, 1) := by decide +kernel
theorem dX2_passTick_32 : decode cX2_passTick 32 = .ok (.aload_n 1, 1) := by decide +kernel
theorem dX2_passTick_33 : decode cX2_passTick 33 = .ok (.iload_n 3, 1) := by decide +kernel
theorem dX2_passTick_34 : decode cX2_passTick 34 = .ok (.invokevirtual 137, 3) := by decide +kernel
theorem dX2_passTick_37 : decode cX2_passTick 37 = .ok (.iinc 3 1, 3) := by decide +kernel
theorem dX2_passTick_40 : decode cX2_passTick 40 = .ok (.goto (-14), 3) := by decide +kernel
theorem dX2_passTick_43 : decode cX2_passTick 43 = .ok (.aload_n 1, 1) := by decide +kernel
theorem dX2_passTick_44 : decode cX2_passTick 44 = .ok (.iconst 0, 1) := by decide +kernel
theorem dX2_passTick_45 : decode cX2_passTick 45 = .ok (.putfield 59, 3) := by decide +kernel
theorem dX2_passTick_48 : decode cX2_passTick 48 = .ok (.iconst 0, 1) := by decide +kernel
theorem dX2_passTick_49 : decode cX2_passTick 49 = .ok (.istore_n 3, 1) := by decide +kernel
theorem dX2_passTick_50 : decode cX2_passTick 50 = .ok (.iload_n 3, 1) := by decide +kernel
theorem dX2_passTick_51 : decode cX2_passTick 51 = .ok (.bipush 12, 2) := by decide +kernel
theorem dX2_passTick_53 : decode cX2_passTick 53 = .ok (.if_icmp .ge 14, 3) := by decide +kernel
theorem dX2_passTick_56 : decode cX2_passTick 56 = .ok (.aload_n 0, 1) := by decide +kernel
theorem dX2_passTick_57 : decode cX2_passTick 57 = .ok (.iload_n 3, 1) := by decide +kernel
theorem dX2_passTick_58 : decode cX2_passTick 58 = .ok (.invokevirtual 141, 3) := by decide +kernel
theorem dX2_passTick_61 : decode cX2_passTick 61 = .ok (.iinc 3 1, 3) := by decide +kernel
theorem dX2_passTick_64 : decode cX2_passTick 64 = .ok (.goto (-14), 3) := by decide +kernel
theorem dX2_passTick_67 : decode cX2_passTick 67 = .ok (.iconst 0, 1) := by decide +kernel
theorem dX2_passTick_68 : decode cX2_passTick 68 = .ok (.istore_n 3, 1) := by decide +kernel
theorem dX2_passTick_69 : decode cX2_passTick 69 = .ok (.iload_n 3, 1) := by decide +kernel
theorem dX2_passTick_70 : decode cX2_passTick 70 = .ok (.aload_n 0, 1) := by decide +kernel
theorem dX2_passTick_71 : decode cX2_passTick 71 = .ok (.getfield 44, 3) := by decide +kernel
theorem dX2_passTick_74 : decode cX2_passTick 74 = .ok (.if_icmp .ge 19, 3) := by decide +kernel
theorem dX2_passTick_77 : decode cX2_passTick 77 = .ok (.aload_n 0, 1) := by decide +kernel
theorem dX2_passTick_78 : decode cX2_passTick 78 = .ok (.iload_n 3, 1) := by decide +kernel
theorem dX2_passTick_79 : decode cX2_passTick 79 = .ok (.aload_n 0, 1) := by decide +kernel
theorem dX2_passTick_80 : decode cX2_passTick 80 = .ok (.getfield 15, 3) := by decide +kernel
theorem dX2_passTick_83 : decode cX2_passTick 83 = .ok (.invokevirtual 144, 3) := by decide +kernel
theorem dX2_passTick_86 : decode cX2_passTick 86 = .ok (.pop, 1) := by decide +kernel
theorem dX2_passTick_87 : decode cX2_passTick 87 = .ok (.iinc 3 1, 3) := by decide +kernel
theorem dX2_passTick_90 : decode cX2_passTick 90 = .ok (.goto (-21), 3) := by decide +kernel
theorem dX2_passTick_93 : decode cX2_passTick 93 = .ok (.return_, 1) := by decide +kernel
theorem dX2_bring_0 : decode cX2_bring 0 = .ok (.aload_n 1, 1) := by decide +kernel
theorem dX2_bring_1 : decode cX2_bring 1 = .ok (.iload_n 2, 1) := by decide +kernel
theorem dX2_bring_2 : decode cX2_bring 2 = .ok (.iconst 0, 1) := by decide +kernel
theorem dX2_bring_3 : decode cX2_bring 3 = .ok (.invokevirtual 69, 3) := by decide +kernel
theorem dX2_bring_6 : decode cX2_bring 6 = .ok (.istore_n 3, 1) := by decide +kernel
theorem dX2_bring_7 : decode cX2_bring 7 = .ok (.aload_n 1, 1) := by decide +kernel
theorem dX2_bring_8 : decode cX2_bring 8 = .ok (.iload_n 2, 1) := by decide +kernel
theorem dX2_bring_9 : decode cX2_bring 9 = .ok (.iconst 2, 1) := by decide +kernel
theorem dX2_bring_10 : decode cX2_bring 10 = .ok (.invokevirtual 69, 3) := by decide +kernel
theorem dX2_bring_13 : decode cX2_bring 13 = .ok (.istore 4, 2) := by decide +kernel
theorem dX2_bring_15 : decode cX2_bring 15 = .ok (.aload_n 0, 1) := by decide +kernel
theorem dX2_bring_16 : decode cX2_bring 16 = .ok (.iload_n 3, 1) := by decide +kernel
theorem dX2_bring_17 : decode cX2_bring 17 = .ok (.invokevirtual 147, 3) := by decide +kernel
theorem dX2_bring_20 : decode cX2_bring 20 = .ok (.ifCond .eq 11, 3) := by decide +kernel
theorem dX2_bring_23 : decode cX2_bring 23 = .ok (.iload 4, 2) := by decide +kernel
theorem dX2_bring_25 : decode cX2_bring 25 = .ok (.invokestatic 151, 3) := by decide +kernel
theorem dX2_bring_28 : decode cX2_bring 28 = .ok (.ifCond .ne 4, 3) := by decide +kernel
theorem dX2_bring_31 : decode cX2_bring 31 = .ok (.return_, 1) := by decide +kernel
theorem dX2_bring_32 : decode cX2_bring 32 = .ok (.aload_n 0, 1) := by decide +kernel
theorem dX2_bring_33 : decode cX2_bring 33 = .ok (.getfield 23, 3) := by decide +kernel
theorem dX2_bring_36 : decode cX2_bring 36 = .ok (.iload_n 3, 1) := by decide +kernel
theorem dX2_bring_37 : decode cX2_bring 37 = .ok (.aaload, 1) := by decide +kernel
theorem dX2_bring_38 : decode cX2_bring 38 = .ok (.astore 5, 2) := by decide +kernel
theorem dX2_bring_40 : decode cX2_bring 40 = .ok (.aload 5, 2) := by decide +kernel
theorem dX2_bring_42 : decode cX2_bring 42 = .ok (.getfield 82, 3) := by decide +kernel
theorem dX2_bring_45 : decode cX2_bring 45 = .ok (.ifCond .ne 14, 3) := by decide +kernel
theorem dX2_bring_48 : decode cX2_bring 48 = .ok (.aload_n 1, 1) := by decide +kernel
theorem dX2_bring_49 : decode cX2_bring 49 = .ok (.iload_n 2, 1) := by decide +kernel
theorem dX2_bring_50 : decode cX2_bring 50 = .ok (.bipush 7, 2) := by decide +kernel
theorem dX2_bring_52 : decode cX2_bring 52 = .ok (.invokevirtual 69, 3) := by decide +kernel
theorem dX2_bring_55 : decode cX2_bring 55 = .ok (.iconst 1, 1) := by decide +kernel
theorem dX2_bring_56 : decode cX2_bring 56 = .ok (.if_icmp .ne 15, 3) := by decide +kernel
theorem dX2_bring_59 : decode cX2_bring 59 = .ok (.aload 5, 2) := by decide +kernel
theorem dX2_bring_61 : decode cX2_bring 61 = .ok (.dup, 1) := by decide +kernel
theorem dX2_bring_62 : decode cX2_bring 62 = .ok (.getfield 154, 3) := by decide +kernel
theorem dX2_bring_65 : decode cX2_bring 65 = .ok (.iconst 1, 1) := by decide +kernel
theorem dX2_bring_66 : decode cX2_bring 66 = .ok (.iadd, 1) := by decide +kernel
theorem dX2_bring_67 : decode cX2_bring 67 = .ok (.putfield 154, 3) := by decide +kernel
theorem dX2_bring_70 : decode cX2_bring 70 = .ok (.return_, 1) := by decide +kernel
theorem dX2_bring_71 : decode cX2_bring 71 = .ok (.aload_n 1, 1) := by decide +kernel
theorem dX2_bring_72 : decode cX2_bring 72 = .ok (.iload_n 2, 1) := by decide +kernel
theorem dX2_bring_73 : decode cX2_bring 73 = .ok (.iconst 1, 1) := by decide +kernel
theorem dX2_bring_74 : decode cX2_bring 74 = .ok (.invokevirtual 69, 3) := by decide +kernel
theorem dX2_bring_77 : decode cX2_bring 77 = .ok (.istore 6, 2) := by decide +kernel
theorem dX2_bring_79 : decode cX2_bring 79 = .ok (.aload_n 1, 1) := by decide +kernel
theorem dX2_bring_80 : decode cX2_bring 80 = .ok (.iload_n 2, 1) := by decide +kernel
theorem dX2_bring_81 : decode cX2_bring 81 = .ok (.iconst 4, 1) := by decide +kernel
theorem dX2_bring_82 : decode cX2_bring 82 = .ok (.invokevirtual 69, 3) := by decide +kernel
theorem dX2_bring_85 : decode cX2_bring 85 = .ok (.istore 7, 2) := by decide +kernel
theorem dX2_bring_87 : decode cX2_bring 87 = .ok (.aload_n 1, 1) := by decide +kernel
theorem dX2_bring_88 : decode cX2_bring 88 = .ok (.iload_n 2, 1) := by decide +kernel
theorem dX2_bring_89 : decode cX2_bring 89 = .ok (.iconst 5, 1) := by decide +kernel
theorem dX2_bring_90 : decode cX2_bring 90 = .ok (.invokevirtual 69, 3) := by decide +kernel
theorem dX2_bring_93 : decode cX2_bring 93 = .ok (.istore 8, 2) := by decide +kernel
theorem dX2_bring_95 : decode cX2_bring 95 = .ok (.aload_n 1, 1) := by decide +kernel
theorem dX2_bring_96 : decode cX2_bring 96 = .ok (.iload_n 2, 1) := by decide +kernel
theorem dX2_bring_97 : decode cX2_bring 97 = .ok (.bipush 6, 2) := by decide +kernel
theorem dX2_bring_99 : decode cX2_bring 99 = .ok (.invokevirtual 69, 3) := by decide +kernel
theorem dX2_bring_102 : decode cX2_bring 102 = .ok (.istore 9, 2) := by decide +kernel
theorem dX2_bring_104 : decode cX2_bring 104 = .ok (.iload 6, 2) := by decide +kernel
theorem dX2_bring_106 : decode cX2_bring 106 = .ok (.tableswitch 178 0 6 #[42, 42, 71, 93, 113, 133, 157], 42) := by decide +kernel
theorem dX2_bring_148 : decode cX2_bring 148 = .ok (.aload_n 0, 1) := by decide +kernel
theorem dX2_bring_149 : decode cX2_bring 149 = .ok (.getfield 29, 3) := by decide +kernel
theorem dX2_bring_152 : decode cX2_bring 152 = .ok (.iload 4, 2) := by decide +kernel
theorem dX2_bring_154 : decode cX2_bring 154 = .ok (.aaload, 1) := by decide +kernel
theorem dX2_bring_155 : decode cX2_bring 155 = .ok (.iload_n 3, 1) := by decide +kernel
theorem dX2_bring_156 : decode cX2_bring 156 = .ok (.iload 6, 2) := by decide +kernel
theorem dX2_bring_158 : decode cX2_bring 158 = .ok (.iload 7, 2) := by decide +kernel
theorem dX2_bring_160 : decode cX2_bring 160 = .ok (.iload 8, 2) := by decide +kernel
theorem dX2_bring_162 : decode cX2_bring 162 = .ok (.invokevirtual 157, 3) := by decide +kernel
theorem dX2_bring_165 : decode cX2_bring 165 = .ok (.ifCond .ne 119, 3) := by decide +kernel
theorem dX2_bring_168 : decode cX2_bring 168 = .ok (.aload_n 0, 1) := by decide +kernel
theorem dX2_bring_169 : decode cX2_bring 169 = .ok (.iload 4, 2) := by decide +kernel
theorem dX2_bring_171 : decode cX2_bring 171 = .ok (.invokevirtual 141, 3) := by decide +kernel
theorem dX2_bring_174 : decode cX2_bring 174 = .ok (.goto 110, 3) := by decide +kernel
theorem dX2_bring_177 : decode cX2_bring 177 = .ok (.aload_n 0, 1) := by decide +kernel
theorem dX2_bring_178 : decode cX2_bring 178 = .ok (.getfield 29, 3) := by decide +kernel
theorem dX2_bring_181 : decode cX2_bring 181 = .ok (.iload 4, 2) := by decide +kernel
theorem dX2_bring_183 : decode cX2_bring 183 = .ok (.aaload, 1) := by decide +kernel
theorem dX2_bring_184 : decode cX2_bring 184 = .ok (.getfield 161, 3) := by decide +kernel
theorem dX2_bring_187 : decode cX2_bring 187 = .ok (.iload_n 3, 1) := by decide +kernel
theorem dX2_bring_188 : decode cX2_bring 188 = .ok (.iconst (-1), 1) := by decide +kernel
theorem dX2_bring_189 : decode cX2_bring 189 = .ok (.iastore, 1) := by decide +kernel
theorem dX2_bring_190 : decode cX2_bring 190 = .ok (.aload_n 0, 1) := by decide +kernel
theorem dX2_bring_191 : decode cX2_bring 191 = .ok (.iload 4, 2) := by decide +kernel
theorem dX2_bring_193 : decode cX2_bring 193 = .ok (.invokevirtual 141, 3) := by decide +kernel
theorem dX2_bring_196 : decode cX2_bring 196 = .ok (.goto 88, 3) := by decide +kernel
theorem dX2_bring_199 : decode cX2_bring 199 = .ok (.aload 5, 2) := by decide +kernel
theorem dX2_bring_201 : decode cX2_bring 201 = .ok (.iload 4, 2) := by decide +kernel
theorem dX2_bring_203 : decode cX2_bring 203 = .ok (.iload 7, 2) := by decide +kernel
theorem dX2_bring_205 : decode cX2_bring 205 = .ok (.iload 8, 2) := by decide +kernel
theorem dX2_bring_207 : decode cX2_bring 207 = .ok (.iload 9, 2) := by decide +kernel
theorem dX2_bring_209 : decode cX2_bring 209 = .ok (.aload_n 0, 1) := by decide +kernel
theorem dX2_bring_210 : decode cX2_bring 210 = .ok (.getfield 18, 3) := by decide +kernel
theorem dX2_bring_213 : decode cX2_bring 213 = .ok (.invokevirtual 165, 3) := by decide +kernel
theorem dX2_bring_216 : decode cX2_bring 216 = .ok (.goto 68, 3) := by decide +kernel
theorem dX2_bring_219 : decode cX2_bring 219 = .ok (.aload 5, 2) := by decide +kernel
theorem dX2_bring_221 : decode cX2_bring 221 = .ok (.getfield 86, 3) := by decide +kernel
theorem dX2_bring_224 : decode cX2_bring 224 = .ok (.iload 4, 2) := by decide +kernel
theorem dX2_bring_226 : decode cX2_bring 226 = .ok (.aaload, 1) := by decide +kernel
theorem dX2_bring_227 : decode cX2_bring 227 = .ok (.iload 7, 2) := by decide +kernel
theorem dX2_bring_229 : decode cX2_bring 229 = .ok (.iload 8, 2) := by decide +kernel
theorem dX2_bring_231 : decode cX2_bring 231 = .ok (.iload 9, 2) := by decide +kernel
theorem dX2_bring_233 : decode cX2_bring 233 = .ok (.invokevirtual 169, 3) := by decide +kernel
theorem dX2_bring_236 : decode cX2_bring 236 = .ok (.goto 48, 3) := by decide +kernel
theorem dX2_bring_239 : decode cX2_bring 239 = .ok (.aload 5, 2) := by decide +kernel
theorem dX2_bring_241 : decode cX2_bring 241 = .ok (.iload 4, 2) := by decide +kernel
theorem dX2_bring_243 : decode cX2_bring 243 = .ok (.iload 7, 2) := by decide +kernel
theorem dX2_bring_245 : decode cX2_bring 245 = .ok (.iload 8, 2) := by decide +kernel
theorem dX2_bring_247 : decode cX2_bring 247 = .ok (.invokevirtual 172, 3) := by decide +kernel
theorem dX2_bring_250 : decode cX2_bring 250 = .ok (.ifCond .eq 34, 3) := by decide +kernel
theorem dX2_bring_253 : decode cX2_bring 253 = .ok (.aload_n 0, 1) := by decide +kernel
theorem dX2_bring_254 : decode cX2_bring 254 = .ok (.iload_n 3, 1) := by decide +kernel
theorem dX2_bring_255 : decode cX2_bring 255 = .ok (.iload 4, 2) := by decide +kernel
theorem dX2_bring_257 : decode cX2_bring 257 = .ok (.invokevirtual 127, 3) := by decide +kernel
theorem dX2_bring_260 : decode cX2_bring 260 = .ok (.goto 24, 3) := by decide +kernel
theorem dX2_bring_263 : decode cX2_bring 263 = .ok (.aload 5, 2) := by decide +kernel
theorem dX2_bring_265 : decode cX2_bring 265 = .ok (.iload 4, 2) := by decide +kernel
theorem dX2_bring_267 : decode cX2_bring 267 = .ok (.invokevirtual 176, 3) := by decide +kernel
theorem dX2_bring_270 : decode cX2_bring 270 = .ok (.aload_n 0, 1) := by decide +kernel
theorem dX2_bring_271 : decode cX2_bring 271 = .ok (.iconst 2, 1) := by decide +kernel
theorem dX2_bring_272 : decode cX2_bring 272 = .ok (.iload_n 3, 1) := by decide +kernel
theorem dX2_bring_273 : decode cX2_bring 273 = .ok (.iload 4, 2) := by decide +kernel
theorem dX2_bring_275 : decode cX2_bring 275 = .ok (.iconst 0, 1) := by decide +kernel
theorem dX2_bring_276 : decode cX2_bring 276 = .ok (.iconst 0, 1) := by decide +kernel
theorem dX2_bring_277 : decode cX2_bring 277 = .ok (.iconst 0, 1) := by decide +kernel
theorem dX2_bring_278 : decode cX2_bring 278 = .ok (.invokevirtual 101, 3) := by decide +kernel
theorem dX2_bring_281 : decode cX2_bring 281 = .ok (.goto 3, 3) := by decide +kernel
theorem dX2_bring_284 : decode cX2_bring 284 = .ok (.return_, 1) := by decide +kernel
theorem dX2_lookAtFirst_0 : decode cX2_lookAtFirst 0 = .ok (.aload_n 0, 1) := by decide +kernel
theorem dX2_lookAtFirst_1 : decode cX2_lookAtFirst 1 = .ok (.getfield 29, 3) := by decide +kernel
theorem dX2_lookAtFirst_4 : decode cX2_lookAtFirst 4 = .ok (.iload_n 1, 1) := by decide +kernel
theorem dX2_lookAtFirst_5 : decode cX2_lookAtFirst 5 = .ok (.aaload, 1) := by decide +kernel
theorem dX2_lookAtFirst_6 : decode cX2_lookAtFirst 6 = .ok (.astore_n 2, 1) := by decide +kernel
theorem dX2_lookAtFirst_7 : decode cX2_lookAtFirst 7 = .ok (.aload_n 2, 1) := by decide +kernel
theorem dX2_lookAtFirst_8 : decode cX2_lookAtFirst 8 = .ok (.getfield 179, 3) := by decide +kernel
theorem dX2_lookAtFirst_11 : decode cX2_lookAtFirst 11 = .ok (.getfield 59, 3) := by decide +kernel
theorem dX2_lookAtFirst_14 : decode cX2_lookAtFirst 14 = .ok (.istore_n 3, 1) := by decide +kernel
theorem dX2_lookAtFirst_15 : decode cX2_lookAtFirst 15 = .ok (.iconst 0, 1) := by decide +kernel
theorem dX2_lookAtFirst_16 : decode cX2_lookAtFirst 16 = .ok (.istore 4, 2) := by decide +kernel
theorem dX2_lookAtFirst_18 : decode cX2_lookAtFirst 18 = .ok (.iload 4, 2) := by decide +kernel
theorem dX2_lookAtFirst_20 : decode cX2_lookAtFirst 20 = .ok (.iload_n 3, 1) := by decide +kernel
theorem dX2_lookAtFirst_21 : decode cX2_lookAtFirst 21 = .ok (.if_icmp .ge 44, 3) := by decide +kernel
theorem dX2_lookAtFirst_24 : decode cX2_lookAtFirst 24 = .ok (.aload_n 0, 1) := by decide +kernel
theorem dX2_lookAtFirst_25 : decode cX2_lookAtFirst 25 = .ok (.iload_n 1, 1) := by decide +kernel
theorem dX2_lookAtFirst_26 : decode cX2_lookAtFirst 26 = .ok (.iload 4, 2) := by decide +kernel
theorem dX2_lookAtFirst_28 : decode cX2_lookAtFirst 28 = .ok (.invokevirtual 183, 3) := by decide +kernel
theorem dX2_lookAtFirst_31 : decode cX2_lookAtFirst 31 = .ok (.aload_n 2, 1) := by decide +kernel
theorem dX2_lookAtFirst_32 : decode cX2_lookAtFirst 32 = .ok (.iload 4, 2) := by decide +kernel
theorem dX2_lookAtFirst_34 : decode cX2_lookAtFirst 34 = .ok (.aload_n 0, 1) := by decide +kernel
theorem dX2_lookAtFirst_35 : decode cX2_lookAtFirst 35 = .ok (.getfield 62, 3) := by decide +kernel
theorem dX2_lookAtFirst_38 : decode cX2_lookAtFirst 38 = .ok (.invokevirtual 186, 3) := by decide +kernel
theorem dX2_lookAtFirst_41 : decode cX2_lookAtFirst 41 = .ok (.ifCond .eq 6, 3) := by decide +kernel
theorem dX2_lookAtFirst_44 : decode cX2_lookAtFirst 44 = .ok (.goto 21, 3) := by decide +kernel
theorem dX2_lookAtFirst_47 : decode cX2_lookAtFirst 47 = .ok (.aload_n 0, 1) := by decide +kernel
theorem dX2_lookAtFirst_48 : decode cX2_lookAtFirst 48 = .ok (.iload_n 1, 1) := by decide +kernel
theorem dX2_lookAtFirst_49 : decode cX2_lookAtFirst 49 = .ok (.iload 4, 2) := by decide +kernel
theorem dX2_lookAtFirst_51 : decode cX2_lookAtFirst 51 = .ok (.invokevirtual 190, 3) := by decide +kernel
theorem dX2_lookAtFirst_54 : decode cX2_lookAtFirst 54 = .ok (.aload_n 2, 1) := by decide +kernel
theorem dX2_lookAtFirst_55 : decode cX2_lookAtFirst 55 = .ok (.iconst 0, 1) := by decide +kernel
theorem dX2_lookAtFirst_56 : decode cX2_lookAtFirst 56 = .ok (.putfield 193, 3) := by decide +kernel
theorem dX2_lookAtFirst_59 : decode cX2_lookAtFirst 59 = .ok (.iinc 4 1, 3) := by decide +kernel
theorem dX2_lookAtFirst_62 : decode cX2_lookAtFirst 62 = .ok (.goto (-44), 3) := by decide +kernel
theorem dX2_lookAtFirst_65 : decode cX2_lookAtFirst 65 = .ok (.aload_n 2, 1) := by decide +kernel
theorem dX2_lookAtFirst_66 : decode cX2_lookAtFirst 66 = .ok (.getfield 179, 3) := by decide +kernel
theorem dX2_lookAtFirst_69 : decode cX2_lookAtFirst 69 = .ok (.iload 4, 2) := by decide +kernel
theorem dX2_lookAtFirst_71 : decode cX2_lookAtFirst 71 = .ok (.invokevirtual 196, 3) := by decide +kernel
theorem dX2_lookAtFirst_74 : decode cX2_lookAtFirst 74 = .ok (.return_, 1) := by decide +kernel
theorem dX2_callOthers_0 : decode cX2_callOthers 0 = .ok (.aload_n 0, 1) := by decide +kernel
theorem dX2_callOthers_1 : decode cX2_callOthers 1 = .ok (.getfield 29, 3) := by decide +kernel
theorem dX2_callOthers_4 : decode cX2_callOthers 4 = .ok (.iload_n 1, 1) := by decide +kernel
theorem dX2_callOthers_5 : decode cX2_callOthers 5 = .ok (.aaload, 1) := by decide +kernel
theorem dX2_callOthers_6 : decode cX2_callOthers 6 = .ok (.astore_n 3, 1) := by decide +kernel
theorem dX2_callOthers_7 : decode cX2_callOthers 7 = .ok (.aload_n 3, 1) := by decide +kernel
theorem dX2_callOthers_8 : decode cX2_callOthers 8 = .ok (.getfield 193, 3) := by decide +kernel
theorem dX2_callOthers_11 : decode cX2_callOthers 11 = .ok (.ifCond .ne 15, 3) := by decide +kernel
theorem dX2_callOthers_14 : decode cX2_callOthers 14 = .ok (.aload_n 3, 1) := by decide +kernel
theorem dX2_callOthers_15 : decode cX2_callOthers 15 = .ok (.getfield 179, 3) := by decide +kernel
theorem dX2_callOthers_18 : decode cX2_callOthers 18 = .ok (.iload_n 2, 1) := by decide +kernel
theorem dX2_callOthers_19 : decode cX2_callOthers 19 = .ok (.iconst 1, 1) := by decide +kernel
theorem dX2_callOthers_20 : decode cX2_callOthers 20 = .ok (.invokevirtual 69, 3) := by decide +kernel
theorem dX2_callOthers_23 : decode cX2_callOthers 23 = .ok (.ifCond .ne 4, 3) := by decide +kernel
theorem dX2_callOthers_26 : decode cX2_callOthers 26 = .ok (.return_, 1) := by decide +kernel
theorem dX2_callOthers_27 : decode cX2_callOthers 27 = .ok (.aload_n 3, 1) := by decide +kernel
theorem dX2_callOthers_28 : decode cX2_callOthers 28 = .ok (.iconst 1, 1) := by decide +kernel
theorem dX2_callOthers_29 : decode cX2_callOthers 29 = .ok (.putfield 193, 3) := by decide +kernel
theorem dX2_callOthers_32 : decode cX2_callOthers 32 = .ok (.aload_n 3, 1) := by decide +kernel
theorem dX2_callOthers_33 : decode cX2_callOthers 33 = .ok (.getfield 179, 3) := by decide +kernel
theorem dX2_callOthers_36 : decode cX2_callOthers 36 = .ok (.iload_n 2, 1) := by decide +kernel
theorem dX2_callOthers_37 : decode cX2_callOthers 37 = .ok (.iconst 0, 1) := by decide +kernel
theorem dX2_callOthers_38 : decode cX2_callOthers 38 = .ok (.invokevirtual 69, 3) := by decide +kernel
theorem dX2_callOthers_41 : decode cX2_callOthers 41 = .ok (.istore 4, 2) := by decide +kernel
theorem dX2_callOthers_43 : decode cX2_callOthers 43 = .ok (.iconst 0, 1) := by decide +kernel
theorem dX2_callOthers_44 : decode cX2_callOthers 44 = .ok (.istore 5, 2) := by decide +kernel
theorem dX2_callOthers_46 : decode cX2_callOthers 46 = .ok (.iload 5, 2) := by decide +kernel
theorem dX2_callOthers_48 : decode cX2_callOthers 48 = .ok (.aload_n 0, 1) := by decide +kernel
theorem dX2_callOthers_49 : decode cX2_callOthers 49 = .ok (.getfield 44, 3) := by decide +kernel
theorem dX2_callOthers_52 : decode cX2_callOthers 52 = .ok (.if_icmp .ge 41, 3) := by decide +kernel
theorem dX2_callOthers_55 : decode cX2_callOthers 55 = .ok (.iload 5, 2) := by decide +kernel
theorem dX2_callOthers_57 : decode cX2_callOthers 57 = .ok (.iload 4, 2) := by decide +kernel
theorem dX2_callOthers_59 : decode cX2_callOthers 59 = .ok (.if_icmp .eq 28, 3) := by decide +kernel
theorem dX2_callOthers_62 : decode cX2_callOthers 62 = .ok (.aload_n 3, 1) := by decide +kernel
theorem dX2_callOthers_63 : decode cX2_callOthers 63 = .ok (.iload 5, 2) := by decide +kernel
theorem dX2_callOthers_65 : decode cX2_callOthers 65 = .ok (.aload_n 0, 1) := by decide +kernel
theorem dX2_callOthers_66 : decode cX2_callOthers 66 = .ok (.getfield 62, 3) := by decide +kernel
theorem dX2_callOthers_69 : decode cX2_callOthers 69 = .ok (.invokevirtual 199, 3) := by decide +kernel
theorem dX2_callOthers_72 : decode cX2_callOthers 72 = .ok (.ifCond .eq 15, 3) := by decide +kernel
theorem dX2_callOthers_75 : decode cX2_callOthers 75 = .ok (.aload_n 0, 1) := by decide +kernel
theorem dX2_callOthers_76 : decode cX2_callOthers 76 = .ok (.bipush 6, 2) := by decide +kernel
theorem dX2_callOthers_78 : decode cX2_callOthers 78 = .ok (.iload 5, 2) := by decide +kernel
theorem dX2_callOthers_80 : decode cX2_callOthers 80 = .ok (.iload_n 1, 1) := by decide +kernel
theorem dX2_callOthers_81 : decode cX2_callOthers 81 = .ok (.iconst 0, 1) := by decide +kernel
theorem dX2_callOthers_82 : decode cX2_callOthers 82 = .ok (.iconst 0, 1) := by decide +kernel
theorem dX2_callOthers_83 : decode cX2_callOthers 83 = .ok (.iconst 0, 1) := by decide +kernel
theorem dX2_callOthers_84 : decode cX2_callOthers 84 = .ok (.invokevirtual 101, 3) := by decide +kernel
theorem dX2_callOthers_87 : decode cX2_callOthers 87 = .ok (.iinc 5 1, 3) := by decide +kernel
theorem dX2_callOthers_90 : decode cX2_callOthers 90 = .ok (.goto (-44), 3) := by decide +kernel
theorem dX2_callOthers_93 : decode cX2_callOthers 93 = .ok (.return_, 1) := by decide +kernel
theorem dX2_answer_0 : decode cX2_answer 0 = .ok (.aload_n 0, 1) := by decide +kernel
theorem dX2_answer_1 : decode cX2_answer 1 = .ok (.getfield 29, 3) := by decide +kernel
theorem dX2_answer_4 : decode cX2_answer 4 = .ok (.iload_n 1, 1) := by decide +kernel
theorem dX2_answer_5 : decode cX2_answer 5 = .ok (.aaload, 1) := by decide +kernel
theorem dX2_answer_6 : decode cX2_answer 6 = .ok (.astore_n 3, 1) := by decide +kernel
theorem dX2_answer_7 : decode cX2_answer 7 = .ok (.aload_n 3, 1) := by decide +kernel
theorem dX2_answer_8 : decode cX2_answer 8 = .ok (.getfield 179, 3) := by decide +kernel
theorem dX2_answer_11 : decode cX2_answer 11 = .ok (.iload_n 2, 1) := by decide +kernel
theorem dX2_answer_12 : decode cX2_answer 12 = .ok (.iconst 0, 1) := by decide +kernel
theorem dX2_answer_13 : decode cX2_answer 13 = .ok (.invokevirtual 69, 3) := by decide +kernel
theorem dX2_answer_16 : decode cX2_answer 16 = .ok (.istore 4, 2) := by decide +kernel
theorem dX2_answer_18 : decode cX2_answer 18 = .ok (.aload_n 0, 1) := by decide +kernel
theorem dX2_answer_19 : decode cX2_answer 19 = .ok (.iload 4, 2) := by decide +kernel
theorem dX2_answer_21 : decode cX2_answer 21 = .ok (.invokevirtual 147, 3) := by decide +kernel
theorem dX2_answer_24 : decode cX2_answer 24 = .ok (.ifCond .ne 4, 3) := by decide +kernel
theorem dX2_answer_27 : decode cX2_answer 27 = .ok (.return_, 1) := by decide +kernel
theorem dX2_answer_28 : decode cX2_answer 28 = .ok (.aload_n 3, 1) := by decide +kernel
theorem dX2_answer_29 : decode cX2_answer 29 = .ok (.getfield 179, 3) := by decide +kernel
theorem dX2_answer_32 : decode cX2_answer 32 = .ok (.iload_n 2, 1) := by decide +kernel
theorem dX2_answer_33 : decode cX2_answer 33 = .ok (.iconst 1, 1) := by decide +kernel
theorem dX2_answer_34 : decode cX2_answer 34 = .ok (.invokevirtual 69, 3) := by decide +kernel
theorem dX2_answer_37 : decode cX2_answer 37 = .ok (.ifCond .ne 7, 3) := by decide +kernel
theorem dX2_answer_40 : decode cX2_answer 40 = .ok (.iconst 1, 1) := by decide +kernel
theorem dX2_answer_41 : decode cX2_answer 41 = .ok (.goto 4, 3) := by decide +kernel
theorem dX2_answer_44 : decode cX2_answer 44 = .ok (.iconst 0, 1) := by decide +kernel
theorem dX2_answer_45 : decode cX2_answer 45 = .ok (.istore 5, 2) := by decide +kernel
theorem dX2_answer_47 : decode cX2_answer 47 = .ok (.iload 5, 2) := by decide +kernel
theorem dX2_answer_49 : decode cX2_answer 49 = .ok (.ifCond .ne 37, 3) := by decide +kernel
theorem dX2_answer_52 : decode cX2_answer 52 = .ok (.aload_n 3, 1) := by decide +kernel
theorem dX2_answer_53 : decode cX2_answer 53 = .ok (.getfield 179, 3) := by decide +kernel
theorem dX2_answer_56 : decode cX2_answer 56 = .ok (.iload_n 2, 1) := by decide +kernel
theorem dX2_answer_57 : decode cX2_answer 57 = .ok (.iconst 3, 1) := by decide +kernel
theorem dX2_answer_58 : decode cX2_answer 58 = .ok (.invokevirtual 69, 3) := by decide +kernel
theorem dX2_answer_61 : decode cX2_answer 61 = .ok (.aload_n 3, 1) := by decide +kernel
theorem dX2_answer_62 : decode cX2_answer 62 = .ok (.getfield 202, 3) := by decide +kernel
theorem dX2_answer_65 : decode cX2_answer 65 = .ok (.if_icmp .eq 21, 3) := by decide +kernel
theorem dX2_answer_68 : decode cX2_answer 68 = .ok (.aload_n 0, 1) := by decide +kernel
theorem dX2_answer_69 : decode cX2_answer 69 = .ok (.iconst 5, 1) := by decide +kernel
theorem dX2_answer_70 : decode cX2_answer 70 = .ok (.iload 4, 2) := by decide +kernel
theorem dX2_answer_72 : decode cX2_answer 72 = .ok (.iload_n 1, 1) := by decide +kernel
theorem dX2_answer_73 : decode cX2_answer 73 = .ok (.aload_n 3, 1) := by decide +kernel
theorem dX2_answer_74 : decode cX2_answer 74 = .ok (.getfield 203, 3) := by decide +kernel
theorem dX2_answer_77 : decode cX2_answer 77 = .ok (.aload_n 3, 1) := by decide +kernel
theorem dX2_answer_78 : decode cX2_answer 78 = .ok (.getfield 202, 3) := by decide +kernel
theorem dX2_answer_81 : decode cX2_answer 81 = .ok (.iconst (-1), 1) := by decide +kernel
theorem dX2_answer_82 : decode cX2_answer 82 = .ok (.invokevirtual 101, 3) := by decide +kernel
theorem dX2_answer_85 : decode cX2_answer 85 = .ok (.return_, 1) := by decide +kernel
theorem dX2_answer_86 : decode cX2_answer 86 = .ok (.iload 5, 2) := by decide +kernel
theorem dX2_answer_88 : decode cX2_answer 88 = .ok (.ifCond .ne 26, 3) := by decide +kernel
theorem dX2_answer_91 : decode cX2_answer 91 = .ok (.aload_n 3, 1) := by decide +kernel
theorem dX2_answer_92 : decode cX2_answer 92 = .ok (.aload_n 3, 1) := by decide +kernel
theorem dX2_answer_93 : decode cX2_answer 93 = .ok (.getfield 179, 3) := by decide +kernel
theorem dX2_answer_96 : decode cX2_answer 96 = .ok (.iload_n 2, 1) := by decide +kernel
theorem dX2_answer_97 : decode cX2_answer 97 = .ok (.iconst 2, 1) := by decide +kernel
theorem dX2_answer_98 : decode cX2_answer 98 = .ok (.invokevirtual 69, 3) := by decide +kernel
theorem dX2_answer_101 : decode cX2_answer 101 = .ok (.putfield 203, 3) := by decide +kernel
theorem dX2_answer_104 : decode cX2_answer 104 = .ok (.aload_n 3, 1) := by decide +kernel
theorem dX2_answer_105 : decode cX2_answer 105 = .ok (.dup, 1) := by decide +kernel
theorem dX2_answer_106 : decode cX2_answer 106 = .ok (.getfield 202, 3) := by decide +kernel
theorem dX2_answer_109 : decode cX2_answer 109 = .ok (.iconst 1, 1) := by decide +kernel
theorem dX2_answer_110 : decode cX2_answer 110 = .ok (.iadd, 1) := by decide +kernel
theorem dX2_answer_111 : decode cX2_answer 111 = .ok (.putfield 202, 3) := by decide +kernel
theorem dX2_answer_114 : decode cX2_answer 114 = .ok (.aload_n 3, 1) := by decide +kernel
theorem dX2_answer_115 : decode cX2_answer 115 = .ok (.getfield 161, 3) := by decide +kernel
theorem dX2_answer_118 : decode cX2_answer 118 = .ok (.iload 4, 2) := by decide +kernel
theorem dX2_answer_120 : decode cX2_answer 120 = .ok (.aload_n 0, 1) := by decide +kernel
theorem dX2_answer_121 : decode cX2_answer 121 = .ok (.getfield 62, 3) := by decide +kernel
theorem dX2_answer_124 : decode cX2_answer 124 = .ok (.aload_n 0, 1) := by decide +kernel
theorem dX2_answer_125 : decode cX2_answer 125 = .ok (.getfield 9, 3) := by decide +kernel
theorem dX2_answer_128 : decode cX2_answer 128 = .ok (.iadd, 1) := by decide +kernel
theorem dX2_answer_129 : decode cX2_answer 129 = .ok (.iastore, 1) := by decide +kernel
theorem dX2_answer_130 : decode cX2_answer 130 = .ok (.aload_n 0, 1) := by decide +kernel
theorem dX2_answer_131 : decode cX2_answer 131 = .ok (.iload 5, 2) := by decide +kernel
theorem dX2_answer_133 : decode cX2_answer 133 = .ok (.ifCond .eq 7, 3) := by decide +kernel
theorem dX2_answer_136 : decode cX2_answer 136 = .ok (.iconst 3, 1) := by decide +kernel
theorem dX2_answer_137 : decode cX2_answer 137 = .ok (.goto 4, 3) := by decide +kernel
theorem dX2_answer_140 : decode cX2_answer 140 = .ok (.iconst 4, 1) := by decide +kernel
theorem dX2_answer_141 : decode cX2_answer 141 = .ok (.iload 4, 2) := by decide +kernel
theorem dX2_answer_143 : decode cX2_answer 143 = .ok (.iload_n 1, 1) := by decide +kernel
theorem dX2_answer_144 : decode cX2_answer 144 = .ok (.aload_n 3, 1) := by decide +kernel
theorem dX2_answer_145 : decode cX2_answer 145 = .ok (.getfield 203, 3) := by decide +kernel
theorem dX2_answer_148 : decode cX2_answer 148 = .ok (.aload_n 3, 1) := by decide +kernel
theorem dX2_answer_149 : decode cX2_answer 149 = .ok (.getfield 202, 3) := by decide +kernel
theorem dX2_answer_152 : decode cX2_answer 152 = .ok (.aload_n 0, 1) := by decide +kernel
theorem dX2_answer_153 : decode cX2_answer 153 = .ok (.getfield 62, 3) := by decide +kernel
theorem dX2_answer_156 : decode cX2_answer 156 = .ok (.aload_n 0, 1) := by decide +kernel
theorem dX2_answer_157 : decode cX2_answer 157 = .ok (.getfield 9, 3) := by decide +kernel
theorem dX2_answer_160 : decode cX2_answer 160 = .ok (.iadd, 1) := by decide +kernel
theorem dX2_answer_161 : decode cX2_answer 161 = .ok (.invokevirtual 101, 3) := by decide +kernel
theorem dX2_answer_164 : decode cX2_answer 164 = .ok (.return_, 1) := by decide +kernel
theorem dX2_isCalm_0 : decode cX2_isCalm 0 = .ok (.iconst 0, 1) := by decide +kernel
theorem dX2_isCalm_1 : decode cX2_isCalm 1 = .ok (.istore_n 1, 1) := by decide +kernel
theorem dX2_isCalm_2 : decode cX2_isCalm 2 = .ok (.iload_n 1, 1) := by decide +kernel
theorem dX2_isCalm_3 : decode cX2_isCalm 3 = .ok (.bipush 12, 2) := by decide +kernel
theorem dX2_isCalm_5 : decode cX2_isCalm 5 = .ok (.if_icmp .ge 26, 3) := by decide +kernel
theorem dX2_isCalm_8 : decode cX2_isCalm 8 = .ok (.aload_n 0, 1) := by decide +kernel
theorem dX2_isCalm_9 : decode cX2_isCalm 9 = .ok (.getfield 29, 3) := by decide +kernel
theorem dX2_isCalm_12 : decode cX2_isCalm 12 = .ok (.iload_n 1, 1) := by decide +kernel
theorem dX2_isCalm_13 : decode cX2_isCalm 13 = .ok (.aaload, 1) := by decide +kernel
theorem dX2_isCalm_14 : decode cX2_isCalm 14 = .ok (.getfield 179, 3) := by decide +kernel
theorem dX2_isCalm_17 : decode cX2_isCalm 17 = .ok (.getfield 59, 3) := by decide +kernel
theorem dX2_isCalm_20 : decode cX2_isCalm 20 = .ok (.ifCond .le 5, 3) := by decide +kernel
theorem dX2_isCalm_23 : decode cX2_isCalm 23 = .ok (.iconst 0, 1) := by decide +kernel
theorem dX2_isCalm_24 : decode cX2_isCalm 24 = .ok (.ireturn, 1) := by decide +kernel
theorem dX2_isCalm_25 : decode cX2_isCalm 25 = .ok (.iinc 1 1, 3) := by decide +kernel
theorem dX2_isCalm_28 : decode cX2_isCalm 28 = .ok (.goto (-26), 3) := by decide +kernel
theorem dX2_isCalm_31 : decode cX2_isCalm 31 = .ok (.iconst 0, 1) := by decide +kernel
theorem dX2_isCalm_32 : decode cX2_isCalm 32 = .ok (.istore_n 1, 1) := by decide +kernel
theorem dX2_isCalm_33 : decode cX2_isCalm 33 = .ok (.iload_n 1, 1) := by decide +kernel
theorem dX2_isCalm_34 : decode cX2_isCalm 34 = .ok (.aload_n 0, 1) := by decide +kernel
theorem dX2_isCalm_35 : decode cX2_isCalm 35 = .ok (.getfield 44, 3) := by decide +kernel
theorem dX2_isCalm_38 : decode cX2_isCalm 38 = .ok (.if_icmp .ge 35, 3) := by decide +kernel
theorem dX2_isCalm_41 : decode cX2_isCalm 41 = .ok (.aload_n 0, 1) := by decide +kernel
theorem dX2_isCalm_42 : decode cX2_isCalm 42 = .ok (.getfield 23, 3) := by decide +kernel
theorem dX2_isCalm_45 : decode cX2_isCalm 45 = .ok (.iload_n 1, 1) := by decide +kernel
theorem dX2_isCalm_46 : decode cX2_isCalm 46 = .ok (.aaload, 1) := by decide +kernel
theorem dX2_isCalm_47 : decode cX2_isCalm 47 = .ok (.getfield 82, 3) := by decide +kernel
theorem dX2_isCalm_50 : decode cX2_isCalm 50 = .ok (.ifCond .ne 17, 3) := by decide +kernel
theorem dX2_isCalm_53 : decode cX2_isCalm 53 = .ok (.aload_n 0, 1) := by decide +kernel
theorem dX2_isCalm_54 : decode cX2_isCalm 54 = .ok (.getfield 23, 3) := by decide +kernel
theorem dX2_isCalm_57 : decode cX2_isCalm 57 = .ok (.iload_n 1, 1) := by decide +kernel
theorem dX2_isCalm_58 : decode cX2_isCalm 58 = .ok (.aaload, 1) := by decide +kernel
theorem dX2_isCalm_59 : decode cX2_isCalm 59 = .ok (.invokevirtual 204, 3) := by decide +kernel
theorem dX2_isCalm_62 : decode cX2_isCalm 62 = .ok (.ifCond .ne 5, 3) := by decide +kernel
theorem dX2_isCalm_65 : decode cX2_isCalm 65 = .ok (.iconst 0, 1) := by decide +kernel
theorem dX2_isCalm_66 : decode cX2_isCalm 66 = .ok (.ireturn, 1) := by decide +kernel
theorem dX2_isCalm_67 : decode cX2_isCalm 67 = .ok (.iinc 1 1, 3) := by decide +kernel
theorem dX2_isCalm_70 : decode cX2_isCalm 70 = .ok (.goto (-37), 3) := by decide +kernel
theorem dX2_isCalm_73 : decode cX2_isCalm 73 = .ok (.aload_n 0, 1) := by decide +kernel
theorem dX2_isCalm_74 : decode cX2_isCalm 74 = .ok (.invokevirtual 208, 3) := by decide +kernel
theorem dX2_isCalm_77 : decode cX2_isCalm 77 = .ok (.ifCond .ne 7, 3) := by decide +kernel
theorem dX2_isCalm_80 : decode cX2_isCalm 80 = .ok (.iconst 1, 1) := by decide +kernel
theorem dX2_isCalm_81 : decode cX2_isCalm 81 = .ok (.goto 4, 3) := by decide +kernel
theorem dX2_isCalm_84 : decode cX2_isCalm 84 = .ok (.iconst 0, 1) := by decide +kernel
theorem dX2_isCalm_85 : decode cX2_isCalm 85 = .ok (.ireturn, 1) := by decide +kernel
theorem dX2_staleCount_0 : decode cX2_staleCount 0 = .ok (.iconst 0, 1) := by decide +kernel
theorem dX2_staleCount_1 : decode cX2_staleCount 1 = .ok (.istore_n 1, 1) := by decide +kernel
theorem dX2_staleCount_2 : decode cX2_staleCount 2 = .ok (.iconst 0, 1) := by decide +kernel
theorem dX2_staleCount_3 : decode cX2_staleCount 3 = .ok (.istore_n 2, 1) := by decide +kernel
theorem dX2_staleCount_4 : decode cX2_staleCount 4 = .ok (.iload_n 2, 1) := by decide +kernel
theorem dX2_staleCount_5 : decode cX2_staleCount 5 = .ok (.aload_n 0, 1) := by decide +kernel
theorem dX2_staleCount_6 : decode cX2_staleCount 6 = .ok (.getfield 44, 3) := by decide +kernel
theorem dX2_staleCount_9 : decode cX2_staleCount 9 = .ok (.if_icmp .ge 85, 3) := by decide +kernel
theorem dX2_staleCount_12 : decode cX2_staleCount 12 = .ok (.iconst 0, 1) := by decide +kernel
theorem dX2_staleCount_13 : decode cX2_staleCount 13 = .ok (.istore_n 3, 1) := by decide +kernel
theorem dX2_staleCount_14 : decode cX2_staleCount 14 = .ok (.iload_n 3, 1) := by decide +kernel
theorem dX2_staleCount_15 : decode cX2_staleCount 15 = .ok (.bipush 12, 2) := by decide +kernel
theorem dX2_staleCount_17 : decode cX2_staleCount 17 = .ok (.if_icmp .ge 71, 3) := by decide +kernel
theorem dX2_staleCount_20 : decode cX2_staleCount 20 = .ok (.aload_n 0, 1) := by decide +kernel
theorem dX2_staleCount_21 : decode cX2_staleCount 21 = .ok (.getfield 23, 3) := by decide +kernel
theorem dX2_staleCount_24 : decode cX2_staleCount 24 = .ok (.iload_n 2, 1) := by decide +kernel
theorem dX2_staleCount_25 : decode cX2_staleCount 25 = .ok (.aaload, 1) := by decide +kernel
theorem dX2_staleCount_26 : decode cX2_staleCount 26 = .ok (.getfield 86, 3) := by decide +kernel
theorem dX2_staleCount_29 : decode cX2_staleCount 29 = .ok (.iload_n 3, 1) := by decide +kernel
theorem dX2_staleCount_30 : decode cX2_staleCount 30 = .ok (.aaload, 1) := by decide +kernel
theorem dX2_staleCount_31 : decode cX2_staleCount 31 = .ok (.astore 4, 2) := by decide +kernel
theorem dX2_staleCount_33 : decode cX2_staleCount 33 = .ok (.aload 4, 2) := by decide +kernel
theorem dX2_staleCount_35 : decode cX2_staleCount 35 = .ok (.aload_n 0, 1) := by decide +kernel
theorem dX2_staleCount_36 : decode cX2_staleCount 36 = .ok (.getfield 62, 3) := by decide +kernel
theorem dX2_staleCount_39 : decode cX2_staleCount 39 = .ok (.aload_n 0, 1) := by decide +kernel
theorem dX2_staleCount_40 : decode cX2_staleCount 40 = .ok (.getfield 23, 3) := by decide +kernel
theorem dX2_staleCount_43 : decode cX2_staleCount 43 = .ok (.iload_n 2, 1) := by decide +kernel
theorem dX2_staleCount_44 : decode cX2_staleCount 44 = .ok (.aaload, 1) := by decide +kernel
theorem dX2_staleCount_45 : decode cX2_staleCount 45 = .ok (.getfield 82, 3) := by decide +kernel
theorem dX2_staleCount_48 : decode cX2_staleCount 48 = .ok (.invokevirtual 105, 3) := by decide +kernel
theorem dX2_staleCount_51 : decode cX2_staleCount 51 = .ok (.ifCond .eq 31, 3) := by decide +kernel
theorem dX2_staleCount_54 : decode cX2_staleCount 54 = .ok (.aload 4, 2) := by decide +kernel
theorem dX2_staleCount_56 : decode cX2_staleCount 56 = .ok (.getfield 131, 3) := by decide +kernel
theorem dX2_staleCount_59 : decode cX2_staleCount 59 = .ok (.ifCond .ne 23, 3) := by decide +kernel
theorem dX2_staleCount_62 : decode cX2_staleCount 62 = .ok (.aload 4, 2) := by decide +kernel
theorem dX2_staleCount_64 : decode cX2_staleCount 64 = .ok (.getfield 98, 3) := by decide +kernel
theorem dX2_staleCount_67 : decode cX2_staleCount 67 = .ok (.aload_n 0, 1) := by decide +kernel
theorem dX2_staleCount_68 : decode cX2_staleCount 68 = .ok (.getfield 29, 3) := by decide +kernel
theorem dX2_staleCount_71 : decode cX2_staleCount 71 = .ok (.iload_n 3, 1) := by decide +kernel
theorem dX2_staleCount_72 : decode cX2_staleCount 72 = .ok (.aaload, 1) := by decide +kernel
theorem dX2_staleCount_73 : decode cX2_staleCount 73 = .ok (.getfield 202, 3) := by decide +kernel
theorem dX2_staleCount_76 : decode cX2_staleCount 76 = .ok (.if_icmp .eq 6, 3) := by decide +kernel
theorem dX2_staleCount_79 : decode cX2_staleCount 79 = .ok (.iinc 1 1, 3) := by decide +kernel
theorem dX2_staleCount_82 : decode cX2_staleCount 82 = .ok (.iinc 3 1, 3) := by decide +kernel
theorem dX2_staleCount_85 : decode cX2_staleCount 85 = .ok (.goto (-71), 3) := by decide +kernel
theorem dX2_staleCount_88 : decode cX2_staleCount 88 = .ok (.iinc 2 1, 3) := by decide +kernel
theorem dX2_staleCount_91 : decode cX2_staleCount 91 = .ok (.goto (-87), 3) := by decide +kernel
theorem dX2_staleCount_94 : decode cX2_staleCount 94 = .ok (.iload_n 1, 1) := by decide +kernel
theorem dX2_staleCount_95 : decode cX2_staleCount 95 = .ok (.ireturn, 1) := by decide +kernel
theorem dX2_copyFrom_0 : decode cX2_copyFrom 0 = .ok (.aload_n 0, 1) := by decide +kernel
theorem dX2_copyFrom_1 : decode cX2_copyFrom 1 = .ok (.aload_n 1, 1) := by decide +kernel
theorem dX2_copyFrom_2 : decode cX2_copyFrom 2 = .ok (.getfield 62, 3) := by decide +kernel
theorem dX2_copyFrom_5 : decode cX2_copyFrom 5 = .ok (.putfield 62, 3) := by decide +kernel
theorem dX2_copyFrom_8 : decode cX2_copyFrom 8 = .ok (.aload_n 0, 1) := by decide +kernel
theorem dX2_copyFrom_9 : decode cX2_copyFrom 9 = .ok (.aload_n 1, 1) := by decide +kernel
theorem dX2_copyFrom_10 : decode cX2_copyFrom 10 = .ok (.getfield 9, 3) := by decide +kernel
theorem dX2_copyFrom_13 : decode cX2_copyFrom 13 = .ok (.putfield 9, 3) := by decide +kernel
theorem dX2_copyFrom_16 : decode cX2_copyFrom 16 = .ok (.aload_n 0, 1) := by decide +kernel
theorem dX2_copyFrom_17 : decode cX2_copyFrom 17 = .ok (.aload_n 1, 1) := by decide +kernel
theorem dX2_copyFrom_18 : decode cX2_copyFrom 18 = .ok (.getfield 15, 3) := by decide +kernel
theorem dX2_copyFrom_21 : decode cX2_copyFrom 21 = .ok (.putfield 15, 3) := by decide +kernel
theorem dX2_copyFrom_24 : decode cX2_copyFrom 24 = .ok (.aload_n 0, 1) := by decide +kernel
theorem dX2_copyFrom_25 : decode cX2_copyFrom 25 = .ok (.aload_n 1, 1) := by decide +kernel
theorem dX2_copyFrom_26 : decode cX2_copyFrom 26 = .ok (.getfield 18, 3) := by decide +kernel
theorem dX2_copyFrom_29 : decode cX2_copyFrom 29 = .ok (.putfield 18, 3) := by decide +kernel
theorem dX2_copyFrom_32 : decode cX2_copyFrom 32 = .ok (.aload_n 0, 1) := by decide +kernel
theorem dX2_copyFrom_33 : decode cX2_copyFrom 33 = .ok (.aload_n 1, 1) := by decide +kernel
theorem dX2_copyFrom_34 : decode cX2_copyFrom 34 = .ok (.getfield 44, 3) := by decide +kernel
theorem dX2_copyFrom_37 : decode cX2_copyFrom 37 = .ok (.putfield 44, 3) := by decide +kernel
theorem dX2_copyFrom_40 : decode cX2_copyFrom 40 = .ok (.iconst 0, 1) := by decide +kernel
theorem dX2_copyFrom_41 : decode cX2_copyFrom 41 = .ok (.istore_n 2, 1) := by decide +kernel
theorem dX2_copyFrom_42 : decode cX2_copyFrom 42 = .ok (.iload_n 2, 1) := by decide +kernel
theorem dX2_copyFrom_43 : decode cX2_copyFrom 43 = .ok (.iconst 4, 1) := by decide +kernel
theorem dX2_copyFrom_44 : decode cX2_copyFrom 44 = .ok (.if_icmp .ge 24, 3) := by decide +kernel
theorem dX2_copyFrom_47 : decode cX2_copyFrom 47 = .ok (.aload_n 0, 1) := by decide +kernel
theorem dX2_copyFrom_48 : decode cX2_copyFrom 48 = .ok (.getfield 23, 3) := by decide +kernel
theorem dX2_copyFrom_51 : decode cX2_copyFrom 51 = .ok (.iload_n 2, 1) := by decide +kernel
theorem dX2_copyFrom_52 : decode cX2_copyFrom 52 = .ok (.aaload, 1) := by decide +kernel
theorem dX2_copyFrom_53 : decode cX2_copyFrom 53 = .ok (.aload_n 1, 1) := by decide +kernel
theorem dX2_copyFrom_54 : decode cX2_copyFrom 54 = .ok (.getfield 23, 3) := by decide +kernel
theorem dX2_copyFrom_57 : decode cX2_copyFrom 57 = .ok (.iload_n 2, 1) := by decide +kernel
theorem dX2_copyFrom_58 : decode cX2_copyFrom 58 = .ok (.aaload, 1) := by decide +kernel
theorem dX2_copyFrom_59 : decode cX2_copyFrom 59 = .ok (.invokevirtual 211, 3) := by decide +kernel
theorem dX2_copyFrom_62 : decode cX2_copyFrom 62 = .ok (.iinc 2 1, 3) := by decide +kernel
theorem dX2_copyFrom_65 : decode cX2_copyFrom 65 = .ok (.goto (-23), 3) := by decide +kernel
theorem dX2_copyFrom_68 : decode cX2_copyFrom 68 = .ok (.iconst 0, 1) := by decide +kernel
theorem dX2_copyFrom_69 : decode cX2_copyFrom 69 = .ok (.istore_n 2, 1) := by decide +kernel
theorem dX2_copyFrom_70 : decode cX2_copyFrom 70 = .ok (.iload_n 2, 1) := by decide +kernel
theorem dX2_copyFrom_71 : decode cX2_copyFrom 71 = .ok (.bipush 12, 2) := by decide +kernel
theorem dX2_copyFrom_73 : decode cX2_copyFrom 73 = .ok (.if_icmp .ge 24, 3) := by decide +kernel
theorem dX2_copyFrom_76 : decode cX2_copyFrom 76 = .ok (.aload_n 0, 1) := by decide +kernel
theorem dX2_copyFrom_77 : decode cX2_copyFrom 77 = .ok (.getfield 29, 3) := by decide +kernel
theorem dX2_copyFrom_80 : decode cX2_copyFrom 80 = .ok (.iload_n 2, 1) := by decide +kernel
theorem dX2_copyFrom_81 : decode cX2_copyFrom 81 = .ok (.aaload, 1) := by decide +kernel
theorem dX2_copyFrom_82 : decode cX2_copyFrom 82 = .ok (.aload_n 1, 1) := by decide +kernel
theorem dX2_copyFrom_83 : decode cX2_copyFrom 83 = .ok (.getfield 29, 3) := by decide +kernel
theorem dX2_copyFrom_86 : decode cX2_copyFrom 86 = .ok (.iload_n 2, 1) := by decide +kernel
theorem dX2_copyFrom_87 : decode cX2_copyFrom 87 = .ok (.aaload, 1) := by decide +kernel
theorem dX2_copyFrom_88 : decode cX2_copyFrom 88 = .ok (.invokevirtual 215, 3) := by decide +kernel
theorem dX2_copyFrom_91 : decode cX2_copyFrom 91 = .ok (.iinc 2 1, 3) := by decide +kernel
theorem dX2_copyFrom_94 : decode cX2_copyFrom 94 = .ok (.goto (-24), 3) := by decide +kernel
theorem dX2_copyFrom_97 : decode cX2_copyFrom 97 = .ok (.iconst 0, 1) := by decide +kernel
theorem dX2_copyFrom_98 : decode cX2_copyFrom 98 = .ok (.istore_n 2, 1) := by decide +kernel
theorem dX2_copyFrom_99 : decode cX2_copyFrom 99 = .ok (.iload_n 2, 1) := by decide +kernel
theorem dX2_copyFrom_100 : decode cX2_copyFrom 100 = .ok (.bipush 9, 2) := by decide +kernel
theorem dX2_copyFrom_102 : decode cX2_copyFrom 102 = .ok (.if_icmp .ge 24, 3) := by decide +kernel
theorem dX2_copyFrom_105 : decode cX2_copyFrom 105 = .ok (.aload_n 0, 1) := by decide +kernel
theorem dX2_copyFrom_106 : decode cX2_copyFrom 106 = .ok (.getfield 35, 3) := by decide +kernel
theorem dX2_copyFrom_109 : decode cX2_copyFrom 109 = .ok (.iload_n 2, 1) := by decide +kernel
theorem dX2_copyFrom_110 : decode cX2_copyFrom 110 = .ok (.aaload, 1) := by decide +kernel
theorem dX2_copyFrom_111 : decode cX2_copyFrom 111 = .ok (.aload_n 1, 1) := by decide +kernel
theorem dX2_copyFrom_112 : decode cX2_copyFrom 112 = .ok (.getfield 35, 3) := by decide +kernel
theorem dX2_copyFrom_115 : decode cX2_copyFrom 115 = .ok (.iload_n 2, 1) := by decide +kernel
theorem dX2_copyFrom_116 : decode cX2_copyFrom 116 = .ok (.aaload, 1) := by decide +kernel
theorem dX2_copyFrom_117 : decode cX2_copyFrom 117 = .ok (.invokevirtual 218, 3) := by decide +kernel
theorem dX2_copyFrom_120 : decode cX2_copyFrom 120 = .ok (.iinc 2 1, 3) := by decide +kernel
theorem dX2_copyFrom_123 : decode cX2_copyFrom 123 = .ok (.goto (-24), 3) := by decide +kernel
theorem dX2_copyFrom_126 : decode cX2_copyFrom 126 = .ok (.return_, 1) := by decide +kernel
theorem dX3_init_0 : decode cX3_init 0 = .ok (.aload_n 0, 1) := by decide +kernel
theorem dX3_init_1 : decode cX3_init 1 = .ok (.invokespecial 3, 3) := by decide +kernel
theorem dX3_init_4 : decode cX3_init 4 = .ok (.aload_n 0, 1) := by decide +kernel
theorem dX3_init_5 : decode cX3_init 5 = .ok (.iconst 4, 1) := by decide +kernel
theorem dX3_init_6 : decode cX3_init 6 = .ok (.newarray .int, 2) := by decide +kernel
theorem dX3_init_8 : decode cX3_init 8 = .ok (.putfield 9, 3) := by decide +kernel
theorem dX3_init_11 : decode cX3_init 11 = .ok (.aload_n 0, 1) := by decide +kernel
theorem dX3_init_12 : decode cX3_init 12 = .ok (.new 15, 3) := by decide +kernel
theorem dX3_init_15 : decode cX3_init 15 = .ok (.dup, 1) := by decide +kernel
theorem dX3_init_16 : decode cX3_init 16 = .ok (.iconst 4, 1) := by decide +kernel
theorem dX3_init_17 : decode cX3_init 17 = .ok (.invokespecial 17, 3) := by decide +kernel
theorem dX3_init_20 : decode cX3_init 20 = .ok (.putfield 20, 3) := by decide +kernel
theorem dX3_init_23 : decode cX3_init 23 = .ok (.return_, 1) := by decide +kernel
theorem dX3_isLeased_0 : decode cX3_isLeased 0 = .ok (.iload_n 2, 1) := by decide +kernel
theorem dX3_isLeased_1 : decode cX3_isLeased 1 = .ok (.aload_n 0, 1) := by decide +kernel
theorem dX3_isLeased_2 : decode cX3_isLeased 2 = .ok (.getfield 9, 3) := by decide +kernel
theorem dX3_isLeased_5 : decode cX3_isLeased 5 = .ok (.iload_n 1, 1) := by decide +kernel
theorem dX3_isLeased_6 : decode cX3_isLeased 6 = .ok (.iaload, 1) := by decide +kernel
theorem dX3_isLeased_7 : decode cX3_isLeased 7 = .ok (.if_icmp .ge 7, 3) := by decide +kernel
theorem dX3_isLeased_10 : decode cX3_isLeased 10 = .ok (.iconst 1, 1) := by decide +kernel
theorem dX3_isLeased_11 : decode cX3_isLeased 11 = .ok (.goto 4, 3) := by decide +kernel
theorem dX3_isLeased_14 : decode cX3_isLeased 14 = .ok (.iconst 0, 1) := by decide +kernel
theorem dX3_isLeased_15 : decode cX3_isLeased 15 = .ok (.ireturn, 1) := by decide +kernel
theorem dX3_hasToWait_0 : decode cX3_hasToWait 0 = .ok (.aload_n 0, 1) := by decide +kernel
theorem dX3_hasToWait_1 : decode cX3_hasToWait 1 = .ok (.getfield 20, 3) := by decide +kernel
theorem dX3_hasToWait_4 : decode cX3_hasToWait 4 = .ok (.iload_n 1, 1) := by decide +kernel
theorem dX3_hasToWait_5 : decode cX3_hasToWait 5 = .ok (.iconst 1, 1) := by decide +kernel
theorem dX3_hasToWait_6 : decode cX3_hasToWait 6 = .ok (.invokevirtual 24, 3) := by decide +kernel
theorem dX3_hasToWait_9 : decode cX3_hasToWait 9 = .ok (.ifCond .ne 5, 3) := by decide +kernel
theorem dX3_hasToWait_12 : decode cX3_hasToWait 12 = .ok (.iconst 0, 1) := by decide +kernel
theorem dX3_hasToWait_13 : decode cX3_hasToWait 13 = .ok (.ireturn, 1) := by decide +kernel
theorem dX3_hasToWait_14 : decode cX3_hasToWait 14 = .ok (.aload_n 0, 1) := by decide +kernel
theorem dX3_hasToWait_15 : decode cX3_hasToWait 15 = .ok (.getfield 20, 3) := by decide +kernel
theorem dX3_hasToWait_18 : decode cX3_hasToWait 18 = .ok (.iload_n 1, 1) := by decide +kernel
theorem dX3_hasToWait_19 : decode cX3_hasToWait 19 = .ok (.iconst 0, 1) := by decide +kernel
theorem dX3_hasToWait_20 : decode cX3_hasToWait 20 = .ok (.invokevirtual 24, 3) := by decide +kernel
theorem dX3_hasToWait_23 : decode cX3_hasToWait 23 = .ok (.istore_n 3, 1) := by decide +kernel
theorem dX3_hasToWait_24 : decode cX3_hasToWait 24 = .ok (.iconst 0, 1) := by decide +kernel
theorem dX3_hasToWait_25 : decode cX3_hasToWait 25 = .ok (.istore 4, 2) := by decide +kernel
theorem dX3_hasToWait_27 : decode cX3_hasToWait 27 = .ok (.iload 4, 2) := by decide +kernel
theorem dX3_hasToWait_29 : decode cX3_hasToWait 29 = .ok (.iconst 4, 1) := by decide +kernel
theorem dX3_hasToWait_30 : decode cX3_hasToWait 30 = .ok (.if_icmp .ge 27, 3) := by decide +kernel
theorem dX3_hasToWait_33 : decode cX3_hasToWait 33 = .ok (.iload 4, 2) := by decide +kernel
theorem dX3_hasToWait_35 : decode cX3_hasToWait 35 = .ok (.iload_n 3, 1) := by decide +kernel
theorem dX3_hasToWait_36 : decode cX3_hasToWait 36 = .ok (.if_icmp .eq 15, 3) := by decide +kernel
theorem dX3_hasToWait_39 : decode cX3_hasToWait 39 = .ok (.aload_n 0, 1) := by decide +kernel
theorem dX3_hasToWait_40 : decode cX3_hasToWait 40 = .ok (.iload 4, 2) := by decide +kernel
theorem dX3_hasToWait_42 : decode cX3_hasToWait 42 = .ok (.iload_n 2, 1) := by decide +kernel
theorem dX3_hasToWait_43 : decode cX3_hasToWait 43 = .ok (.invokevirtual 28, 3) := by decide +kernel
theorem dX3_hasToWait_46 : decode cX3_hasToWait 46 = .ok (.ifCond .eq 5, 3) := by decide +kernel
theorem dX3_hasToWait_49 : decode cX3_hasToWait 49 = .ok (.iconst 1, 1) := by decide +kernel
theorem dX3_hasToWait_50 : decode cX3_hasToWait 50 = .ok (.ireturn, 1) := by decide +kernel
theorem dX3_hasToWait_51 : decode cX3_hasToWait 51 = .ok (.iinc 4 1, 3) := by decide +kernel
theorem dX3_hasToWait_54 : decode cX3_hasToWait 54 = .ok (.goto (-27), 3) := by decide +kernel
theorem dX3_hasToWait_57 : decode cX3_hasToWait 57 = .ok (.iconst 0, 1) := by decide +kernel
theorem dX3_hasToWait_58 : decode cX3_hasToWait 58 = .ok (.ireturn, 1) := by decide +kernel
theorem dX3_addRequest_0 : decode cX3_addRequest 0 = .ok (.aload_n 0, 1) := by decide +kernel
theorem dX3_addRequest_1 : decode cX3_addRequest 1 = .ok (.getfield 20, 3) := by decide +kernel
theorem dX3_addRequest_4 : decode cX3_addRequest 4 = .ok (.invokevirtual 32, 3) := by decide +kernel
theorem dX3_addRequest_7 : decode cX3_addRequest 7 = .ok (.istore 5, 2) := by decide +kernel
theorem dX3_addRequest_9 : decode cX3_addRequest 9 = .ok (.aload_n 0, 1) := by decide +kernel
theorem dX3_addRequest_10 : decode cX3_addRequest 10 = .ok (.getfield 20, 3) := by decide +kernel
theorem dX3_addRequest_13 : decode cX3_addRequest 13 = .ok (.iload 5, 2) := by decide +kernel
theorem dX3_addRequest_15 : decode cX3_addRequest 15 = .ok (.iconst 0, 1) := by decide +kernel
theorem dX3_addRequest_16 : decode cX3_addRequest 16 = .ok (.iload_n 1, 1) := by decide +kernel
theorem dX3_addRequest_17 : decode cX3_addRequest 17 = .ok (.invokevirtual 36, 3) := by decide +kernel
theorem dX3_addRequest_20 : decode cX3_addRequest 20 = .ok (.aload_n 0, 1) := by decide +kernel
theorem dX3_addRequest_21 : decode cX3_addRequest 21 = .ok (.getfield 20, 3) := by decide +kernel
theorem dX3_addRequest_24 : decode cX3_addRequest 24 = .ok (.iload 5, 2) := by decide +kernel
theorem dX3_addRequest_26 : decode cX3_addRequest 26 = .ok (.iconst 1, 1) := by decide +kernel
theorem dX3_addRequest_27 : decode cX3_addRequest 27 = .ok (.iload_n 2, 1) := by decide +kernel
theorem dX3_addRequest_28 : decode cX3_addRequest 28 = .ok (.invokevirtual 36, 3) := by decide +kernel
theorem dX3_addRequest_31 : decode cX3_addRequest 31 = .ok (.aload_n 0, 1) := by decide +kernel
theorem dX3_addRequest_32 : decode cX3_addRequest 32 = .ok (.getfield 20, 3) := by decide +kernel
theorem dX3_addRequest_35 : decode cX3_addRequest 35 = .ok (.iload 5, 2) := by decide +kernel
theorem dX3_addRequest_37 : decode cX3_addRequest 37 = .ok (.iconst 2, 1) := by decide +kernel
theorem dX3_addRequest_38 : decode cX3_addRequest 38 = .ok (.iload_n 3, 1) := by decide +kernel
theorem dX3_addRequest_39 : decode cX3_addRequest 39 = .ok (.invokevirtual 36, 3) := by decide +kernel
theorem dX3_addRequest_42 : decode cX3_addRequest 42 = .ok (.aload_n 0, 1) := by decide +kernel
theorem dX3_addRequest_43 : decode cX3_addRequest 43 = .ok (.getfield 20, 3) := by decide +kernel
theorem dX3_addRequest_46 : decode cX3_addRequest 46 = .ok (.iload 5, 2) := by decide +kernel
theorem dX3_addRequest_48 : decode cX3_addRequest 48 = .ok (.iconst 3, 1) := by decide +kernel
theorem dX3_addRequest_49 : decode cX3_addRequest 49 = .ok (.iload 4, 2) := by decide +kernel
theorem dX3_addRequest_51 : decode cX3_addRequest 51 = .ok (.invokevirtual 36, 3) := by decide +kernel
theorem dX3_addRequest_54 : decode cX3_addRequest 54 = .ok (.iload 5, 2) := by decide +kernel
theorem dX3_addRequest_56 : decode cX3_addRequest 56 = .ok (.ireturn, 1) := by decide +kernel
theorem dX3_leasedSet_0 : decode cX3_leasedSet 0 = .ok (.iconst 0, 1) := by decide +kernel
theorem dX3_leasedSet_1 : decode cX3_leasedSet 1 = .ok (.istore_n 2, 1) := by decide +kernel
theorem dX3_leasedSet_2 : decode cX3_leasedSet 2 = .ok (.iconst 0, 1) := by decide +kernel
theorem dX3_leasedSet_3 : decode cX3_leasedSet 3 = .ok (.istore_n 3, 1) := by decide +kernel
theorem dX3_leasedSet_4 : decode cX3_leasedSet 4 = .ok (.iload_n 3, 1) := by decide +kernel
theorem dX3_leasedSet_5 : decode cX3_leasedSet 5 = .ok (.iconst 4, 1) := by decide +kernel
theorem dX3_leasedSet_6 : decode cX3_leasedSet 6 = .ok (.if_icmp .ge 24, 3) := by decide +kernel
theorem dX3_leasedSet_9 : decode cX3_leasedSet 9 = .ok (.aload_n 0, 1) := by decide +kernel
theorem dX3_leasedSet_10 : decode cX3_leasedSet 10 = .ok (.iload_n 3, 1) := by decide +kernel
theorem dX3_leasedSet_11 : decode cX3_leasedSet 11 = .ok (.iload_n 1, 1) := by decide +kernel
theorem dX3_leasedSet_12 : decode cX3_leasedSet 12 = .ok (.invokevirtual 28, 3) := by decide +kernel
theorem dX3_leasedSet_15 : decode cX3_leasedSet 15 = .ok (.ifCond .eq 9, 3) := by decide +kernel
theorem dX3_leasedSet_18 : decode cX3_leasedSet 18 = .ok (.iload_n 2, 1) := by decide +kernel
theorem dX3_leasedSet_19 : decode cX3_leasedSet 19 = .ok (.iconst 1, 1) := by decide +kernel
theorem dX3_leasedSet_20 : decode cX3_leasedSet 20 = .ok (.iload_n 3, 1) := by decide +kernel
theorem dX3_leasedSet_21 : decode cX3_leasedSet 21 = .ok (.ishl, 1) := by decide +kernel
theorem dX3_leasedSet_22 : decode cX3_leasedSet 22 = .ok (.ior, 1) := by decide +kernel
theorem dX3_leasedSet_23 : decode cX3_leasedSet 23 = .ok (.istore_n 2, 1) := by decide +kernel
theorem dX3_leasedSet_24 : decode cX3_leasedSet 24 = .ok (.iinc 3 1, 3) := by decide +kernel
theorem dX3_leasedSet_27 : decode cX3_leasedSet 27 = .ok (.goto (-23), 3) := by decide +kernel
theorem dX3_leasedSet_30 : decode cX3_leasedSet 30 = .ok (.iload_n 2, 1) := by decide +kernel
theorem dX3_leasedSet_31 : decode cX3_leasedSet 31 = .ok (.ireturn, 1) := by decide +kernel
theorem dX3_tell_0 : decode cX3_tell 0 = .ok (.iload_n 1, 1) := by decide +kernel
theorem dX3_tell_1 : decode cX3_tell 1 = .ok (.tableswitch 45 0 2 #[27, 32, 37], 27) := by decide +kernel
theorem dX3_tell_28 : decode cX3_tell 28 = .ok (.aload_n 0, 1) := by decide +kernel
theorem dX3_tell_29 : decode cX3_tell 29 = .ok (.getfield 40, 3) := by decide +kernel
theorem dX3_tell_32 : decode cX3_tell 32 = .ok (.ireturn, 1) := by decide +kernel
theorem dX3_tell_33 : decode cX3_tell 33 = .ok (.aload_n 0, 1) := by decide +kernel
theorem dX3_tell_34 : decode cX3_tell 34 = .ok (.getfield 44, 3) := by decide +kernel
theorem dX3_tell_37 : decode cX3_tell 37 = .ok (.ireturn, 1) := by decide +kernel
theorem dX3_tell_38 : decode cX3_tell 38 = .ok (.aload_n 0, 1) := by decide +kernel
theorem dX3_tell_39 : decode cX3_tell 39 = .ok (.getfield 20, 3) := by decide +kernel
theorem dX3_tell_42 : decode cX3_tell 42 = .ok (.getfield 47, 3) := by decide +kernel
theorem dX3_tell_45 : decode cX3_tell 45 = .ok (.ireturn, 1) := by decide +kernel
theorem dX3_tell_46 : decode cX3_tell 46 = .ok (.aload_n 0, 1) := by decide +kernel
theorem dX3_tell_47 : decode cX3_tell 47 = .ok (.iload_n 2, 1) := by decide +kernel
theorem dX3_tell_48 : decode cX3_tell 48 = .ok (.invokevirtual 50, 3) := by decide +kernel
theorem dX3_tell_51 : decode cX3_tell 51 = .ok (.ireturn, 1) := by decide +kernel
theorem dX3_copyFrom_0 : decode cX3_copyFrom 0 = .ok (.aload_n 0, 1) := by decide +kernel
theorem dX3_copyFrom_1 : decode cX3_copyFrom 1 = .ok (.aload_n 1, 1) := by decide +kernel
theorem dX3_copyFrom_2 : decode cX3_copyFrom 2 = .ok (.getfield 40, 3) := by decide +kernel
theorem dX3_copyFrom_5 : decode cX3_copyFrom 5 = .ok (.putfield 40, 3) := by decide +kernel
theorem dX3_copyFrom_8 : decode cX3_copyFrom 8 = .ok (.aload_n 0, 1) := by decide +kernel
theorem dX3_copyFrom_9 : decode cX3_copyFrom 9 = .ok (.aload_n 1, 1) := by decide +kernel
theorem dX3_copyFrom_10 : decode cX3_copyFrom 10 = .ok (.getfield 44, 3) := by decide +kernel
theorem dX3_copyFrom_13 : decode cX3_copyFrom 13 = .ok (.putfield 44, 3) := by decide +kernel
theorem dX3_copyFrom_16 : decode cX3_copyFrom 16 = .ok (.iconst 0, 1) := by decide +kernel
theorem dX3_copyFrom_17 : decode cX3_copyFrom 17 = .ok (.istore_n 2, 1) := by decide +kernel
theorem dX3_copyFrom_18 : decode cX3_copyFrom 18 = .ok (.iload_n 2, 1) := by decide +kernel
theorem dX3_copyFrom_19 : decode cX3_copyFrom 19 = .ok (.iconst 4, 1) := by decide +kernel
theorem dX3_copyFrom_20 : decode cX3_copyFrom 20 = .ok (.if_icmp .ge 21, 3) := by decide +kernel
theorem dX3_copyFrom_23 : decode cX3_copyFrom 23 = .ok (.aload_n 0, 1) := by decide +kernel
theorem dX3_copyFrom_24 : decode cX3_copyFrom 24 = .ok (.getfield 9, 3) := by decide +kernel
theorem dX3_copyFrom_27 : decode cX3_copyFrom 27 = .ok (.iload_n 2, 1) := by decide +kernel
theorem dX3_copyFrom_28 : decode cX3_copyFrom 28 = .ok (.aload_n 1, 1) := by decide +kernel
theorem dX3_copyFrom_29 : decode cX3_copyFrom 29 = .ok (.getfield 9, 3) := by decide +kernel
theorem dX3_copyFrom_32 : decode cX3_copyFrom 32 = .ok (.iload_n 2, 1) := by decide +kernel
theorem dX3_copyFrom_33 : decode cX3_copyFrom 33 = .ok (.iaload, 1) := by decide +kernel
theorem dX3_copyFrom_34 : decode cX3_copyFrom 34 = .ok (.iastore, 1) := by decide +kernel
theorem dX3_copyFrom_35 : decode cX3_copyFrom 35 = .ok (.iinc 2 1, 3) := by decide +kernel
theorem dX3_copyFrom_38 : decode cX3_copyFrom 38 = .ok (.goto (-20), 3) := by decide +kernel
theorem dX3_copyFrom_41 : decode cX3_copyFrom 41 = .ok (.aload_n 0, 1) := by decide +kernel
theorem dX3_copyFrom_42 : decode cX3_copyFrom 42 = .ok (.getfield 20, 3) := by decide +kernel
theorem dX3_copyFrom_45 : decode cX3_copyFrom 45 = .ok (.aload_n 1, 1) := by decide +kernel
theorem dX3_copyFrom_46 : decode cX3_copyFrom 46 = .ok (.getfield 20, 3) := by decide +kernel
theorem dX3_copyFrom_49 : decode cX3_copyFrom 49 = .ok (.invokevirtual 54, 3) := by decide +kernel
theorem dX3_copyFrom_52 : decode cX3_copyFrom 52 = .ok (.aload_n 0, 1) := by decide +kernel
theorem dX3_copyFrom_53 : decode cX3_copyFrom 53 = .ok (.aload_n 1, 1) := by decide +kernel
theorem dX3_copyFrom_54 : decode cX3_copyFrom 54 = .ok (.getfield 58, 3) := by decide +kernel
theorem dX3_copyFrom_57 : decode cX3_copyFrom 57 = .ok (.putfield 58, 3) := by decide +kernel
theorem dX3_copyFrom_60 : decode cX3_copyFrom 60 = .ok (.return_, 1) := by decide +kernel
theorem dX4_init_0 : decode cX4_init 0 = .ok (.aload_n 0, 1) := by decide +kernel
theorem dX4_init_1 : decode cX4_init 1 = .ok (.invokespecial 3, 3) := by decide +kernel
theorem dX4_init_4 : decode cX4_init 4 = .ok (.aload_n 0, 1) := by decide +kernel
theorem dX4_init_5 : decode cX4_init 5 = .ok (.iload_n 1, 1) := by decide +kernel
theorem dX4_init_6 : decode cX4_init 6 = .ok (.iconst 1, 1) := by decide +kernel
theorem dX4_init_7 : decode cX4_init 7 = .ok (.invokestatic 9, 3) := by decide +kernel
theorem dX4_init_10 : decode cX4_init 10 = .ok (.putfield 15, 3) := by decide +kernel
theorem dX4_init_13 : decode cX4_init 13 = .ok (.aload_n 0, 1) := by decide +kernel
theorem dX4_init_14 : decode cX4_init 14 = .ok (.aload_n 0, 1) := by decide +kernel
theorem dX4_init_15 : decode cX4_init 15 = .ok (.getfield 15, 3) := by decide +kernel
theorem dX4_init_18 : decode cX4_init 18 = .ok (.bipush 8, 2) := by decide +kernel
theorem dX4_init_20 : decode cX4_init 20 = .ok (.imul, 1) := by decide +kernel
theorem dX4_init_21 : decode cX4_init 21 = .ok (.newarray .int, 2) := by decide +kernel
theorem dX4_init_23 : decode cX4_init 23 = .ok (.putfield 21, 3) := by decide +kernel
theorem dX4_init_26 : decode cX4_init 26 = .ok (.return_, 1) := by decide +kernel
theorem dX4_addRow_0 : decode cX4_addRow 0 = .ok (.aload_n 0, 1) := by decide +kernel
theorem dX4_addRow_1 : decode cX4_addRow 1 = .ok (.getfield 25, 3) := by decide +kernel
theorem dX4_addRow_4 : decode cX4_addRow 4 = .ok (.ldc 28, 2) := by decide +kernel
theorem dX4_addRow_6 : decode cX4_addRow 6 = .ok (.if_icmp .lt 5, 3) := by decide +kernel
theorem dX4_addRow_9 : decode cX4_addRow 9 = .ok (.iconst (-1), 1) := by decide +kernel
theorem dX4_addRow_10 : decode cX4_addRow 10 = .ok (.ireturn, 1) := by decide +kernel
theorem dX4_addRow_11 : decode cX4_addRow 11 = .ok (.aload_n 0, 1) := by decide +kernel
theorem dX4_addRow_12 : decode cX4_addRow 12 = .ok (.getfield 25, 3) := by decide +kernel
theorem dX4_addRow_15 : decode cX4_addRow 15 = .ok (.aload_n 0, 1) := by decide +kernel
theorem dX4_addRow_16 : decode cX4_addRow 16 = .ok (.getfield 15, 3) := by decide +kernel
theorem dX4_addRow_19 : decode cX4_addRow 19 = .ok (.imul, 1) := by decide +kernel
theorem dX4_addRow_20 : decode cX4_addRow 20 = .ok (.istore_n 1, 1) := by decide +kernel
theorem dX4_addRow_21 : decode cX4_addRow 21 = .ok (.iload_n 1, 1) := by decide +kernel
theorem dX4_addRow_22 : decode cX4_addRow 22 = .ok (.aload_n 0, 1) := by decide +kernel
theorem dX4_addRow_23 : decode cX4_addRow 23 = .ok (.getfield 15, 3) := by decide +kernel
theorem dX4_addRow_26 : decode cX4_addRow 26 = .ok (.iadd, 1) := by decide +kernel
theorem dX4_addRow_27 : decode cX4_addRow 27 = .ok (.aload_n 0, 1) := by decide +kernel
theorem dX4_addRow_28 : decode cX4_addRow 28 = .ok (.getfield 21, 3) := by decide +kernel
theorem dX4_addRow_31 : decode cX4_addRow 31 = .ok (.arraylength, 1) := by decide +kernel
theorem dX4_addRow_32 : decode cX4_addRow 32 = .ok (.if_icmp .le 30, 3) := by decide +kernel
theorem dX4_addRow_35 : decode cX4_addRow 35 = .ok (.iconst 2, 1) := by decide +kernel
theorem dX4_addRow_36 : decode cX4_addRow 36 = .ok (.iload_n 1, 1) := by decide +kernel
theorem dX4_addRow_37 : decode cX4_addRow 37 = .ok (.aload_n 0, 1) := by decide +kernel
theorem dX4_addRow_38 : decode cX4_addRow 38 = .ok (.getfield 15, 3) := by decide +kernel
theorem dX4_addRow_41 : decode cX4_addRow 41 = .ok (.iadd, 1) := by decide +kernel
theorem dX4_addRow_42 : decode cX4_addRow 42 = .ok (.imul, 1) := by decide +kernel
theorem dX4_addRow_43 : decode cX4_addRow 43 = .ok (.newarray .int, 2) := by decide +kernel
theorem dX4_addRow_45 : decode cX4_addRow 45 = .ok (.astore_n 2, 1) := by decide +kernel
theorem dX4_addRow_46 : decode cX4_addRow 46 = .ok (.aload_n 0, 1) := by decide +kernel
theorem dX4_addRow_47 : decode cX4_addRow 47 = .ok (.getfield 21, 3) := by decide +kernel
theorem dX4_addRow_50 : decode cX4_addRow 50 = .ok (.iconst 0, 1) := by decide +kernel
theorem dX4_addRow_51 : decode cX4_addRow 51 = .ok (.aload_n 2, 1) := by decide +kernel
theorem dX4_addRow_52 : decode cX4_addRow 52 = .ok (.iconst 0, 1) := by decide +kernel
theorem dX4_addRow_53 : decode cX4_addRow 53 = .ok (.iload_n 1, 1) := by decide +kernel
theorem dX4_addRow_54 : decode cX4_addRow 54 = .ok (.invokestatic 29, 3) := by decide +kernel
theorem dX4_addRow_57 : decode cX4_addRow 57 = .ok (.aload_n 0, 1) := by decide +kernel
theorem dX4_addRow_58 : decode cX4_addRow 58 = .ok (.aload_n 2, 1) := by decide +kernel
theorem dX4_addRow_59 : decode cX4_addRow 59 = .ok (.putfield 21, 3) := by decide +kernel
theorem dX4_addRow_62 : decode cX4_addRow 62 = .ok (.aload_n 0, 1) := by decide +kernel
theorem dX4_addRow_63 : decode cX4_addRow 63 = .ok (.dup, 1) := by decide +kernel
theorem dX4_addRow_64 : decode cX4_addRow 64 = .ok (.getfield 25, 3) := by decide +kernel
theorem dX4_addRow_67 : decode cX4_addRow 67 = .ok (.iconst 1, 1) := by decide +kernel
theorem dX4_addRow_68 : decode cX4_addRow 68 = .ok (.iadd, 1) := by decide +kernel
theorem dX4_addRow_69 : decode cX4_addRow 69 = .ok (.putfield 25, 3) := by decide +kernel
theorem dX4_addRow_72 : decode cX4_addRow 72 = .ok (.aload_n 0, 1) := by decide +kernel
theorem dX4_addRow_73 : decode cX4_addRow 73 = .ok (.getfield 25, 3) := by decide +kernel
theorem dX4_addRow_76 : decode cX4_addRow 76 = .ok (.iconst 1, 1) := by decide +kernel
theorem dX4_addRow_77 : decode cX4_addRow 77 = .ok (.isub, 1) := by decide +kernel
theorem dX4_addRow_78 : decode cX4_addRow 78 = .ok (.ireturn, 1) := by decide +kernel
theorem dX4_get_0 : decode cX4_get 0 = .ok (.aload_n 0, 1) := by decide +kernel
theorem dX4_get_1 : decode cX4_get 1 = .ok (.iload_n 1, 1) := by decide +kernel
theorem dX4_get_2 : decode cX4_get 2 = .ok (.iload_n 2, 1) := by decide +kernel
theorem dX4_get_3 : decode cX4_get 3 = .ok (.invokevirtual 35, 3) := by decide +kernel
theorem dX4_get_6 : decode cX4_get 6 = .ok (.ifCond .eq 19, 3) := by decide +kernel
theorem dX4_get_9 : decode cX4_get 9 = .ok (.aload_n 0, 1) := by decide +kernel
theorem dX4_get_10 : decode cX4_get 10 = .ok (.getfield 21, 3) := by decide +kernel
theorem dX4_get_13 : decode cX4_get 13 = .ok (.iload_n 1, 1) := by decide +kernel
theorem dX4_get_14 : decode cX4_get 14 = .ok (.aload_n 0, 1) := by decide +kernel
theorem dX4_get_15 : decode cX4_get 15 = .ok (.getfield 15, 3) := by decide +kernel
theorem dX4_get_18 : decode cX4_get 18 = .ok (.imul, 1) := by decide +kernel
theorem dX4_get_19 : decode cX4_get 19 = .ok (.iload_n 2, 1) := by decide +kernel
theorem dX4_get_20 : decode cX4_get 20 = .ok (.iadd, 1) := by decide +kernel
theorem dX4_get_21 : decode cX4_get 21 = .ok (.iaload, 1) := by decide +kernel
theorem dX4_get_22 : decode cX4_get 22 = .ok (.goto 4, 3) := by decide +kernel
theorem dX4_get_25 : decode cX4_get 25 = .ok (.iconst 0, 1) := by decide +kernel
theorem dX4_get_26 : decode cX4_get 26 = .ok (.ireturn, 1) := by decide +kernel
theorem dX4_put_0 : decode cX4_put 0 = .ok (.aload_n 0, 1) := by decide +kernel
theorem dX4_put_1 : decode cX4_put 1 = .ok (.iload_n 1, 1) := by decide +kernel
theorem dX4_put_2 : decode cX4_put 2 = .ok (.iload_n 2, 1) := by decide +kernel
theorem dX4_put_3 : decode cX4_put 3 = .ok (.invokevirtual 35, 3) := by decide +kernel
theorem dX4_put_6 : decode cX4_put 6 = .ok (.ifCond .eq 17, 3) := by decide +kernel
theorem dX4_put_9 : decode cX4_put 9 = .ok (.aload_n 0, 1) := by decide +kernel
theorem dX4_put_10 : decode cX4_put 10 = .ok (.getfield 21, 3) := by decide +kernel
theorem dX4_put_13 : decode cX4_put 13 = .ok (.iload_n 1, 1) := by decide +kernel
theorem dX4_put_14 : decode cX4_put 14 = .ok (.aload_n 0, 1) := by decide +kernel
theorem dX4_put_15 : decode cX4_put 15 = .ok (.getfield 15, 3) := by decide +kernel
theorem dX4_put_18 : decode cX4_put 18 = .ok (.imul, 1) := by decide +kernel
theorem dX4_put_19 : decode cX4_put 19 = .ok (.iload_n 2, 1) := by decide +kernel
theorem dX4_put_20 : decode cX4_put 20 = .ok (.iadd, 1) := by decide +kernel
theorem dX4_put_21 : decode cX4_put 21 = .ok (.iload_n 3, 1) := by decide +kernel
theorem dX4_put_22 : decode cX4_put 22 = .ok (.iastore, 1) := by decide +kernel
theorem dX4_put_23 : decode cX4_put 23 = .ok (.return_, 1) := by decide +kernel
theorem dX4_isCell_0 : decode cX4_isCell 0 = .ok (.iload_n 1, 1) := by decide +kernel
theorem dX4_isCell_1 : decode cX4_isCell 1 = .ok (.ifCond .lt 27, 3) := by decide +kernel
theorem dX4_isCell_4 : decode cX4_isCell 4 = .ok (.iload_n 1, 1) := by decide +kernel
theorem dX4_isCell_5 : decode cX4_isCell 5 = .ok (.aload_n 0, 1) := by decide +kernel
theorem dX4_isCell_6 : decode cX4_isCell 6 = .ok (.getfield 25, 3) := by decide +kernel
theorem dX4_isCell_9 : decode cX4_isCell 9 = .ok (.if_icmp .ge 19, 3) := by decide +kernel
theorem dX4_isCell_12 : decode cX4_isCell 12 = .ok (.iload_n 2, 1) := by decide +kernel
theorem dX4_isCell_13 : decode cX4_isCell 13 = .ok (.ifCond .lt 15, 3) := by decide +kernel
theorem dX4_isCell_16 : decode cX4_isCell 16 = .ok (.iload_n 2, 1) := by decide +kernel
theorem dX4_isCell_17 : decode cX4_isCell 17 = .ok (.aload_n 0, 1) := by decide +kernel
theorem dX4_isCell_18 : decode cX4_isCell 18 = .ok (.getfield 15, 3) := by decide +kernel
theorem dX4_isCell_21 : decode cX4_isCell 21 = .ok (.if_icmp .ge 7, 3) := by decide +kernel
theorem dX4_isCell_24 : decode cX4_isCell 24 = .ok (.iconst 1, 1) := by decide +kernel
theorem dX4_isCell_25 : decode cX4_isCell 25 = .ok (.goto 4, 3) := by decide +kernel
theorem dX4_isCell_28 : decode cX4_isCell 28 = .ok (.iconst 0, 1) := by decide +kernel
theorem dX4_isCell_29 : decode cX4_isCell 29 = .ok (.ireturn, 1) := by decide +kernel
theorem dX4_dropFirst_0 : decode cX4_dropFirst 0 = .ok (.iload_n 1, 1) := by decide +kernel
theorem dX4_dropFirst_1 : decode cX4_dropFirst 1 = .ok (.ifCond .le 11, 3) := by decide +kernel
theorem dX4_dropFirst_4 : decode cX4_dropFirst 4 = .ok (.iload_n 1, 1) := by decide +kernel
theorem dX4_dropFirst_5 : decode cX4_dropFirst 5 = .ok (.aload_n 0, 1) := by decide +kernel
theorem dX4_dropFirst_6 : decode cX4_dropFirst 6 = .ok (.getfield 25, 3) := by decide +kernel
theorem dX4_dropFirst_9 : decode cX4_dropFirst 9 = .ok (.if_icmp .le 4, 3) := by decide +kernel
theorem dX4_dropFirst_12 : decode cX4_dropFirst 12 = .ok (.return_, 1) := by decide +kernel
theorem dX4_dropFirst_13 : decode cX4_dropFirst 13 = .ok (.aload_n 0, 1) := by decide +kernel
theorem dX4_dropFirst_14 : decode cX4_dropFirst 14 = .ok (.getfield 21, 3) := by decide +kernel
theorem dX4_dropFirst_17 : decode cX4_dropFirst 17 = .ok (.iload_n 1, 1) := by decide +kernel
theorem dX4_dropFirst_18 : decode cX4_dropFirst 18 = .ok (.aload_n 0, 1) := by decide +kernel
theorem dX4_dropFirst_19 : decode cX4_dropFirst 19 = .ok (.getfield 15, 3) := by decide +kernel
theorem dX4_dropFirst_22 : decode cX4_dropFirst 22 = .ok (.imul, 1) := by decide +kernel
theorem dX4_dropFirst_23 : decode cX4_dropFirst 23 = .ok (.aload_n 0, 1) := by decide +kernel
theorem dX4_dropFirst_24 : decode cX4_dropFirst 24 = .ok (.getfield 21, 3) := by decide +kernel
theorem dX4_dropFirst_27 : decode cX4_dropFirst 27 = .ok (.iconst 0, 1) := by decide +kernel
theorem dX4_dropFirst_28 : decode cX4_dropFirst 28 = .ok (.aload_n 0, 1) := by decide +kernel
theorem dX4_dropFirst_29 : decode cX4_dropFirst 29 = .ok (.getfield 25, 3) := by decide +kernel
theorem dX4_dropFirst_32 : decode cX4_dropFirst 32 = .ok (.iload_n 1, 1) := by decide +kernel
theorem dX4_dropFirst_33 : decode cX4_dropFirst 33 = .ok (.isub, 1) := by decide +kernel
theorem dX4_dropFirst_34 : decode cX4_dropFirst 34 = .ok (.aload_n 0, 1) := by decide +kernel
theorem dX4_dropFirst_35 : decode cX4_dropFirst 35 = .ok (.getfield 15, 3) := by decide +kernel
theorem dX4_dropFirst_38 : decode cX4_dropFirst 38 = .ok (.imul, 1) := by decide +kernel
theorem dX4_dropFirst_39 : decode cX4_dropFirst 39 = .ok (.invokestatic 29, 3) := by decide +kernel
theorem dX4_dropFirst_42 : decode cX4_dropFirst 42 = .ok (.aload_n 0, 1) := by decide +kernel
theorem dX4_dropFirst_43 : decode cX4_dropFirst 43 = .ok (.dup, 1) := by decide +kernel
theorem dX4_dropFirst_44 : decode cX4_dropFirst 44 = .ok (.getfield 25, 3) := by decide +kernel
theorem dX4_dropFirst_47 : decode cX4_dropFirst 47 = .ok (.iload_n 1, 1) := by decide +kernel
theorem dX4_dropFirst_48 : decode cX4_dropFirst 48 = .ok (.isub, 1) := by decide +kernel
theorem dX4_dropFirst_49 : decode cX4_dropFirst 49 = .ok (.putfield 25, 3) := by decide +kernel
theorem dX4_dropFirst_52 : decode cX4_dropFirst 52 = .ok (.return_, 1) := by decide +kernel
theorem dX4_copyFrom_0 : decode cX4_copyFrom 0 = .ok (.aload_n 1, 1) := by decide +kernel
theorem dX4_copyFrom_1 : decode cX4_copyFrom 1 = .ok (.getfield 25, 3) := by decide +kernel
theorem dX4_copyFrom_4 : decode cX4_copyFrom 4 = .ok (.aload_n 1, 1) := by decide +kernel
theorem dX4_copyFrom_5 : decode cX4_copyFrom 5 = .ok (.getfield 15, 3) := by decide +kernel
theorem dX4_copyFrom_8 : decode cX4_copyFrom 8 = .ok (.imul, 1) := by decide +kernel
theorem dX4_copyFrom_9 : decode cX4_copyFrom 9 = .ok (.istore_n 2, 1) := by decide +kernel
theorem dX4_copyFrom_10 : decode cX4_copyFrom 10 = .ok (.iload_n 2, 1) := by decide +kernel
theorem dX4_copyFrom_11 : decode cX4_copyFrom 11 = .ok (.aload_n 0, 1) := by decide +kernel
theorem dX4_copyFrom_12 : decode cX4_copyFrom 12 = .ok (.getfield 21, 3) := by decide +kernel
theorem dX4_copyFrom_15 : decode cX4_copyFrom 15 = .ok (.arraylength, 1) := by decide +kernel
theorem dX4_copyFrom_16 : decode cX4_copyFrom 16 = .ok (.if_icmp .le 14, 3) := by decide +kernel
theorem dX4_copyFrom_19 : decode cX4_copyFrom 19 = .ok (.aload_n 0, 1) := by decide +kernel
theorem dX4_copyFrom_20 : decode cX4_copyFrom 20 = .ok (.aload_n 1, 1) := by decide +kernel
theorem dX4_copyFrom_21 : decode cX4_copyFrom 21 = .ok (.getfield 21, 3) := by decide +kernel
theorem dX4_copyFrom_24 : decode cX4_copyFrom 24 = .ok (.arraylength, 1) := by decide +kernel
theorem dX4_copyFrom_25 : decode cX4_copyFrom 25 = .ok (.newarray .int, 2) := by decide +kernel
theorem dX4_copyFrom_27 : decode cX4_copyFrom 27 = .ok (.putfield 21, 3) := by decide +kernel
theorem dX4_copyFrom_30 : decode cX4_copyFrom 30 = .ok (.aload_n 1, 1) := by decide +kernel
theorem dX4_copyFrom_31 : decode cX4_copyFrom 31 = .ok (.getfield 21, 3) := by decide +kernel
theorem dX4_copyFrom_34 : decode cX4_copyFrom 34 = .ok (.iconst 0, 1) := by decide +kernel
theorem dX4_copyFrom_35 : decode cX4_copyFrom 35 = .ok (.aload_n 0, 1) := by decide +kernel
theorem dX4_copyFrom_36 : decode cX4_copyFrom 36 = .ok (.getfield 21, 3) := by decide +kernel
theorem dX4_copyFrom_39 : decode cX4_copyFrom 39 = .ok (.iconst 0, 1) := by decide +kernel
theorem dX4_copyFrom_40 : decode cX4_copyFrom 40 = .ok (.iload_n 2, 1) := by decide +kernel
theorem dX4_copyFrom_41 : decode cX4_copyFrom 41 = .ok (.invokestatic 29, 3) := by decide +kernel
theorem dX4_copyFrom_44 : decode cX4_copyFrom 44 = .ok (.aload_n 0, 1) := by decide +kernel
theorem dX4_copyFrom_45 : decode cX4_copyFrom 45 = .ok (.aload_n 1, 1) := by decide +kernel
theorem dX4_copyFrom_46 : decode cX4_copyFrom 46 = .ok (.getfield 25, 3) := by decide +kernel
theorem dX4_copyFrom_49 : decode cX4_copyFrom 49 = .ok (.putfield 25, 3) := by decide +kernel
theorem dX4_copyFrom_52 : decode cX4_copyFrom 52 = .ok (.return_, 1) := by decide +kernel
theorem dX5_init_0 : decode cX5_init 0 = .ok (.aload_n 0, 1) := by decide +kernel
theorem dX5_init_1 : decode cX5_init 1 = .ok (.invokespecial 1, 3) := by decide +kernel
theorem dX5_init_4 : decode cX5_init 4 = .ok (.aload_n 0, 1) := by decide +kernel
theorem dX5_init_5 : decode cX5_init 5 = .ok (.new 7, 3) := by decide +kernel
theorem dX5_init_8 : decode cX5_init 8 = .ok (.dup, 1) := by decide +kernel
theorem dX5_init_9 : decode cX5_init 9 = .ok (.invokespecial 9, 3) := by decide +kernel
theorem dX5_init_12 : decode cX5_init 12 = .ok (.putfield 10, 3) := by decide +kernel
theorem dX5_init_15 : decode cX5_init 15 = .ok (.aload_n 0, 1) := by decide +kernel
theorem dX5_init_16 : decode cX5_init 16 = .ok (.new 7, 3) := by decide +kernel
theorem dX5_init_19 : decode cX5_init 19 = .ok (.dup, 1) := by decide +kernel
theorem dX5_init_20 : decode cX5_init 20 = .ok (.invokespecial 9, 3) := by decide +kernel
theorem dX5_init_23 : decode cX5_init 23 = .ok (.putfield 16, 3) := by decide +kernel
theorem dX5_init_26 : decode cX5_init 26 = .ok (.return_, 1) := by decide +kernel
theorem dX5_addClient_0 : decode cX5_addClient 0 = .ok (.iload_n 1, 1) := by decide +kernel
theorem dX5_addClient_1 : decode cX5_addClient 1 = .ok (.iconst 1, 1) := by decide +kernel
theorem dX5_addClient_2 : decode cX5_addClient 2 = .ok (.if_icmp .lt 18, 3) := by decide +kernel
theorem dX5_addClient_5 : decode cX5_addClient 5 = .ok (.iload_n 1, 1) := by decide +kernel
theorem dX5_addClient_6 : decode cX5_addClient 6 = .ok (.bipush 8, 2) := by decide +kernel
theorem dX5_addClient_8 : decode cX5_addClient 8 = .ok (.if_icmp .gt 12, 3) := by decide +kernel
theorem dX5_addClient_11 : decode cX5_addClient 11 = .ok (.iload_n 2, 1) := by decide +kernel
theorem dX5_addClient_12 : decode cX5_addClient 12 = .ok (.ifCond .lt 8, 3) := by decide +kernel
theorem dX5_addClient_15 : decode cX5_addClient 15 = .ok (.iload_n 2, 1) := by decide +kernel
theorem dX5_addClient_16 : decode cX5_addClient 16 = .ok (.iconst 2, 1) := by decide +kernel
theorem dX5_addClient_17 : decode cX5_addClient 17 = .ok (.if_icmp .le 13, 3) := by decide +kernel
theorem dX5_addClient_20 : decode cX5_addClient 20 = .ok (.new 19, 3) := by decide +kernel
theorem dX5_addClient_23 : decode cX5_addClient 23 = .ok (.dup, 1) := by decide +kernel
theorem dX5_addClient_24 : decode cX5_addClient 24 = .ok (.ldc 21, 2) := by decide +kernel
theorem dX5_addClient_26 : decode cX5_addClient 26 = .ok (.invokespecial 23, 3) := by decide +kernel
theorem dX5_addClient_29 : decode cX5_addClient 29 = .ok (.athrow, 1) := by decide +kernel
theorem dX5_addClient_30 : decode cX5_addClient 30 = .ok (.aload_n 0, 1) := by decide +kernel
theorem dX5_addClient_31 : decode cX5_addClient 31 = .ok (.getfield 10, 3) := by decide +kernel
theorem dX5_addClient_34 : decode cX5_addClient 34 = .ok (.getfield 26, 3) := by decide +kernel
theorem dX5_addClient_37 : decode cX5_addClient 37 = .ok (.iconst 4, 1) := by decide +kernel
theorem dX5_addClient_38 : decode cX5_addClient 38 = .ok (.if_icmp .lt 13, 3) := by decide +kernel
theorem dX5_addClient_41 : decode cX5_addClient 41 = .ok (.new 30, 3) := by decide +kernel
theorem dX5_addClient_44 : decode cX5_addClient 44 = .ok (.dup, 1) := by decide +kernel
theorem dX5_addClient_45 : decode cX5_addClient 45 = .ok (.ldc 32, 2) := by decide +kernel
theorem dX5_addClient_47 : decode cX5_addClient 47 = .ok (.invokespecial 34, 3) := by decide +kernel
theorem dX5_addClient_50 : decode cX5_addClient 50 = .ok (.athrow, 1) := by decide +kernel
theorem dX5_addClient_51 : decode cX5_addClient 51 = .ok (.aload_n 0, 1) := by decide +kernel
theorem dX5_addClient_52 : decode cX5_addClient 52 = .ok (.getfield 10, 3) := by decide +kernel
theorem dX5_addClient_55 : decode cX5_addClient 55 = .ok (.iload_n 1, 1) := by decide +kernel
theorem dX5_addClient_56 : decode cX5_addClient 56 = .ok (.iload_n 2, 1) := by decide +kernel
theorem dX5_addClient_57 : decode cX5_addClient 57 = .ok (.invokevirtual 35, 3) := by decide +kernel
theorem dX5_addClient_60 : decode cX5_addClient 60 = .ok (.ireturn, 1) := by decide +kernel
theorem dX5_setTerm_0 : decode cX5_setTerm 0 = .ok (.iload_n 1, 1) := by decide +kernel
theorem dX5_setTerm_1 : decode cX5_setTerm 1 = .ok (.iconst 1, 1) := by decide +kernel
theorem dX5_setTerm_2 : decode cX5_setTerm 2 = .ok (.if_icmp .lt 19, 3) := by decide +kernel
theorem dX5_setTerm_5 : decode cX5_setTerm 5 = .ok (.iload_n 1, 1) := by decide +kernel
theorem dX5_setTerm_6 : decode cX5_setTerm 6 = .ok (.bipush 60, 2) := by decide +kernel
theorem dX5_setTerm_8 : decode cX5_setTerm 8 = .ok (.if_icmp .gt 13, 3) := by decide +kernel
theorem dX5_setTerm_11 : decode cX5_setTerm 11 = .ok (.iload_n 2, 1) := by decide +kernel
theorem dX5_setTerm_12 : decode cX5_setTerm 12 = .ok (.ifCond .lt 9, 3) := by decide +kernel
theorem dX5_setTerm_15 : decode cX5_setTerm 15 = .ok (.iload_n 2, 1) := by decide +kernel
theorem dX5_setTerm_16 : decode cX5_setTerm 16 = .ok (.bipush 20, 2) := by decide +kernel
theorem dX5_setTerm_18 : decode cX5_setTerm 18 = .ok (.if_icmp .le 13, 3) := by decide +kernel
theorem dX5_setTerm_21 : decode cX5_setTerm 21 = .ok (.new 19, 3) := by decide +kernel
theorem dX5_setTerm_24 : decode cX5_setTerm 24 = .ok (.dup, 1) := by decide +kernel
theorem dX5_setTerm_25 : decode cX5_setTerm 25 = .ok (.ldc 39, 2) := by decide +kernel
theorem dX5_setTerm_27 : decode cX5_setTerm 27 = .ok (.invokespecial 23, 3) := by decide +kernel
theorem dX5_setTerm_30 : decode cX5_setTerm 30 = .ok (.athrow, 1) := by decide +kernel
theorem dX5_setTerm_31 : decode cX5_setTerm 31 = .ok (.aload_n 0, 1) := by decide +kernel
theorem dX5_setTerm_32 : decode cX5_setTerm 32 = .ok (.getfield 10, 3) := by decide +kernel
theorem dX5_setTerm_35 : decode cX5_setTerm 35 = .ok (.getfield 41, 3) := by decide +kernel
theorem dX5_setTerm_38 : decode cX5_setTerm 38 = .ok (.istore_n 3, 1) := by decide +kernel
theorem dX5_setTerm_39 : decode cX5_setTerm 39 = .ok (.aload_n 0, 1) := by decide +kernel
theorem dX5_setTerm_40 : decode cX5_setTerm 40 = .ok (.getfield 10, 3) := by decide +kernel
theorem dX5_setTerm_43 : decode cX5_setTerm 43 = .ok (.iload_n 1, 1) := by decide +kernel
theorem dX5_setTerm_44 : decode cX5_setTerm 44 = .ok (.putfield 41, 3) := by decide +kernel
theorem dX5_setTerm_47 : decode cX5_setTerm 47 = .ok (.aload_n 0, 1) := by decide +kernel
theorem dX5_setTerm_48 : decode cX5_setTerm 48 = .ok (.getfield 10, 3) := by decide +kernel
theorem dX5_setTerm_51 : decode cX5_setTerm 51 = .ok (.iload_n 2, 1) := by decide +kernel
theorem dX5_setTerm_52 : decode cX5_setTerm 52 = .ok (.putfield 44, 3) := by decide +kernel
theorem dX5_setTerm_55 : decode cX5_setTerm 55 = .ok (.iload_n 3, 1) := by decide +kernel
theorem dX5_setTerm_56 : decode cX5_setTerm 56 = .ok (.ireturn, 1) := by decide +kernel
theorem dX5_setRoom_0 : decode cX5_setRoom 0 = .ok (.iload_n 1, 1) := by decide +kernel
theorem dX5_setRoom_1 : decode cX5_setRoom 1 = .ok (.iconst 2, 1) := by decide +kernel
theorem dX5_setRoom_2 : decode cX5_setRoom 2 = .ok (.if_icmp .lt 9, 3) := by decide +kernel
theorem dX5_setRoom_5 : decode cX5_setRoom 5 = .ok (.iload_n 1, 1) := by decide +kernel
theorem dX5_setRoom_6 : decode cX5_setRoom 6 = .ok (.bipush 6, 2) := by decide +kernel
theorem dX5_setRoom_8 : decode cX5_setRoom 8 = .ok (.if_icmp .le 13, 3) := by decide +kernel
theorem dX5_setRoom_11 : decode cX5_setRoom 11 = .ok (.new 19, 3) := by decide +kernel
theorem dX5_setRoom_14 : decode cX5_setRoom 14 = .ok (.dup, 1) := by decide +kernel
theorem dX5_setRoom_15 : decode cX5_setRoom 15 = .ok (.ldc 47, 2) := by decide +kernel
theorem dX5_setRoom_17 : decode cX5_setRoom 17 = .ok (.invokespecial 23, 3) := by decide +kernel
theorem dX5_setRoom_20 : decode cX5_setRoom 20 = .ok (.athrow, 1) := by decide +kernel
theorem dX5_setRoom_21 : decode cX5_setRoom 21 = .ok (.aload_n 0, 1) := by decide +kernel
theorem dX5_setRoom_22 : decode cX5_setRoom 22 = .ok (.getfield 10, 3) := by decide +kernel
theorem dX5_setRoom_25 : decode cX5_setRoom 25 = .ok (.getfield 49, 3) := by decide +kernel
theorem dX5_setRoom_28 : decode cX5_setRoom 28 = .ok (.istore_n 2, 1) := by decide +kernel
theorem dX5_setRoom_29 : decode cX5_setRoom 29 = .ok (.aload_n 0, 1) := by decide +kernel
theorem dX5_setRoom_30 : decode cX5_setRoom 30 = .ok (.getfield 10, 3) := by decide +kernel
theorem dX5_setRoom_33 : decode cX5_setRoom 33 = .ok (.iload_n 1, 1) := by decide +kernel
theorem dX5_setRoom_34 : decode cX5_setRoom 34 = .ok (.putfield 49, 3) := by decide +kernel
theorem dX5_setRoom_37 : decode cX5_setRoom 37 = .ok (.iload_n 2, 1) := by decide +kernel
theorem dX5_setRoom_38 : decode cX5_setRoom 38 = .ok (.ireturn, 1) := by decide +kernel
theorem dX5_cut_0 : decode cX5_cut 0 = .ok (.aload_n 0, 1) := by decide +kernel
theorem dX5_cut_1 : decode cX5_cut 1 = .ok (.iload_n 1, 1) := by decide +kernel
theorem dX5_cut_2 : decode cX5_cut 2 = .ok (.invokevirtual 52, 3) := by decide +kernel
theorem dX5_cut_5 : decode cX5_cut 5 = .ok (.iload_n 2, 1) := by decide +kernel
theorem dX5_cut_6 : decode cX5_cut 6 = .ok (.ifCond .ne 12, 3) := by decide +kernel
theorem dX5_cut_9 : decode cX5_cut 9 = .ok (.aload_n 0, 1) := by decide +kernel
theorem dX5_cut_10 : decode cX5_cut 10 = .ok (.getfield 10, 3) := by decide +kernel
theorem dX5_cut_13 : decode cX5_cut 13 = .ok (.iload_n 1, 1) := by decide +kernel
theorem dX5_cut_14 : decode cX5_cut 14 = .ok (.invokevirtual 56, 3) := by decide +kernel
theorem dX5_cut_17 : decode cX5_cut 17 = .ok (.ireturn, 1) := by decide +kernel
theorem dX5_cut_18 : decode cX5_cut 18 = .ok (.aload_n 0, 1) := by decide +kernel
theorem dX5_cut_19 : decode cX5_cut 19 = .ok (.getfield 10, 3) := by decide +kernel
theorem dX5_cut_22 : decode cX5_cut 22 = .ok (.getfield 60, 3) := by decide +kernel
theorem dX5_cut_25 : decode cX5_cut 25 = .ok (.iload_n 1, 1) := by decide +kernel
theorem dX5_cut_26 : decode cX5_cut 26 = .ok (.aaload, 1) := by decide +kernel
theorem dX5_cut_27 : decode cX5_cut 27 = .ok (.invokevirtual 64, 3) := by decide +kernel
theorem dX5_cut_30 : decode cX5_cut 30 = .ok (.iconst 0, 1) := by decide +kernel
theorem dX5_cut_31 : decode cX5_cut 31 = .ok (.ireturn, 1) := by decide +kernel
theorem dX5_read_0 : decode cX5_read 0 = .ok (.aload_n 0, 1) := by decide +kernel
theorem dX5_read_1 : decode cX5_read 1 = .ok (.iload_n 1, 1) := by decide +kernel
theorem dX5_read_2 : decode cX5_read 2 = .ok (.invokevirtual 52, 3) := by decide +kernel
theorem dX5_read_5 : decode cX5_read 5 = .ok (.iload_n 2, 1) := by decide +kernel
theorem dX5_read_6 : decode cX5_read 6 = .ok (.invokestatic 69, 3) := by decide +kernel
theorem dX5_read_9 : decode cX5_read 9 = .ok (.aload_n 0, 1) := by decide +kernel
theorem dX5_read_10 : decode cX5_read 10 = .ok (.getfield 10, 3) := by decide +kernel
theorem dX5_read_13 : decode cX5_read 13 = .ok (.iload_n 1, 1) := by decide +kernel
theorem dX5_read_14 : decode cX5_read 14 = .ok (.iload_n 2, 1) := by decide +kernel
theorem dX5_read_15 : decode cX5_read 15 = .ok (.invokevirtual 72, 3) := by decide +kernel
theorem dX5_read_18 : decode cX5_read 18 = .ok (.ifCond .eq 23, 3) := by decide +kernel
theorem dX5_read_21 : decode cX5_read 21 = .ok (.aload_n 0, 1) := by decide +kernel
theorem dX5_read_22 : decode cX5_read 22 = .ok (.getfield 10, 3) := by decide +kernel
theorem dX5_read_25 : decode cX5_read 25 = .ok (.getfield 60, 3) := by decide +kernel
theorem dX5_read_28 : decode cX5_read 28 = .ok (.iload_n 1, 1) := by decide +kernel
theorem dX5_read_29 : decode cX5_read 29 = .ok (.aaload, 1) := by decide +kernel
theorem dX5_read_30 : decode cX5_read 30 = .ok (.getfield 76, 3) := by decide +kernel
theorem dX5_read_33 : decode cX5_read 33 = .ok (.iload_n 2, 1) := by decide +kernel
theorem dX5_read_34 : decode cX5_read 34 = .ok (.aaload, 1) := by decide +kernel
theorem dX5_read_35 : decode cX5_read 35 = .ok (.getfield 80, 3) := by decide +kernel
theorem dX5_read_38 : decode cX5_read 38 = .ok (.goto 4, 3) := by decide +kernel
theorem dX5_read_41 : decode cX5_read 41 = .ok (.iconst (-1), 1) := by decide +kernel
theorem dX5_read_42 : decode cX5_read 42 = .ok (.ireturn, 1) := by decide +kernel
theorem dX5_write_0 : decode cX5_write 0 = .ok (.aload_n 0, 1) := by decide +kernel
theorem dX5_write_1 : decode cX5_write 1 = .ok (.iload_n 1, 1) := by decide +kernel
theorem dX5_write_2 : decode cX5_write 2 = .ok (.invokevirtual 52, 3) := by decide +kernel
theorem dX5_write_5 : decode cX5_write 5 = .ok (.iload_n 2, 1) := by decide +kernel
theorem dX5_write_6 : decode cX5_write 6 = .ok (.invokestatic 69, 3) := by decide +kernel
theorem dX5_write_9 : decode cX5_write 9 = .ok (.iload_n 3, 1) := by decide +kernel
theorem dX5_write_10 : decode cX5_write 10 = .ok (.ifCond .lt 10, 3) := by decide +kernel
theorem dX5_write_13 : decode cX5_write 13 = .ok (.iload_n 3, 1) := by decide +kernel
theorem dX5_write_14 : decode cX5_write 14 = .ok (.sipush 9999, 3) := by decide +kernel
theorem dX5_write_17 : decode cX5_write 17 = .ok (.if_icmp .le 13, 3) := by decide +kernel
theorem dX5_write_20 : decode cX5_write 20 = .ok (.new 19, 3) := by decide +kernel
theorem dX5_write_23 : decode cX5_write 23 = .ok (.dup, 1) := by decide +kernel
theorem dX5_write_24 : decode cX5_write 24 = .ok (.ldc 85, 2) := by decide +kernel
theorem dX5_write_26 : decode cX5_write 26 = .ok (.invokespecial 23, 3) := by decide +kernel
theorem dX5_write_29 : decode cX5_write 29 = .ok (.athrow, 1) := by decide +kernel
theorem dX5_write_30 : decode cX5_write 30 = .ok (.aload_n 0, 1) := by decide +kernel
theorem dX5_write_31 : decode cX5_write 31 = .ok (.getfield 10, 3) := by decide +kernel
theorem dX5_write_34 : decode cX5_write 34 = .ok (.iload_n 1, 1) := by decide +kernel
theorem dX5_write_35 : decode cX5_write 35 = .ok (.iload_n 2, 1) := by decide +kernel
theorem dX5_write_36 : decode cX5_write 36 = .ok (.invokevirtual 72, 3) := by decide +kernel
theorem dX5_write_39 : decode cX5_write 39 = .ok (.ifCond .ne 5, 3) := by decide +kernel
theorem dX5_write_42 : decode cX5_write 42 = .ok (.iconst 0, 1) := by decide +kernel
theorem dX5_write_43 : decode cX5_write 43 = .ok (.ireturn, 1) := by decide +kernel
theorem dX5_write_44 : decode cX5_write 44 = .ok (.aload_n 0, 1) := by decide +kernel
theorem dX5_write_45 : decode cX5_write 45 = .ok (.getfield 10, 3) := by decide +kernel
theorem dX5_write_48 : decode cX5_write 48 = .ok (.getfield 60, 3) := by decide +kernel
theorem dX5_write_51 : decode cX5_write 51 = .ok (.iload_n 1, 1) := by decide +kernel
theorem dX5_write_52 : decode cX5_write 52 = .ok (.aaload, 1) := by decide +kernel
theorem dX5_write_53 : decode cX5_write 53 = .ok (.getfield 76, 3) := by decide +kernel
theorem dX5_write_56 : decode cX5_write 56 = .ok (.iload_n 2, 1) := by decide +kernel
theorem dX5_write_57 : decode cX5_write 57 = .ok (.aaload, 1) := by decide +kernel
theorem dX5_write_58 : decode cX5_write 58 = .ok (.iload_n 3, 1) := by decide +kernel
theorem dX5_write_59 : decode cX5_write 59 = .ok (.aload_n 0, 1) := by decide +kernel
theorem dX5_write_60 : decode cX5_write 60 = .ok (.getfield 10, 3) := by decide +kernel
theorem dX5_write_63 : decode cX5_write 63 = .ok (.getfield 87, 3) := by decide +kernel
theorem dX5_write_66 : decode cX5_write 66 = .ok (.invokevirtual 90, 3) := by decide +kernel
theorem dX5_write_69 : decode cX5_write 69 = .ok (.iconst 1, 1) := by decide +kernel
theorem dX5_write_70 : decode cX5_write 70 = .ok (.ireturn, 1) := by decide +kernel
theorem dX5_flush_0 : decode cX5_flush 0 = .ok (.aload_n 0, 1) := by decide +kernel
theorem dX5_flush_1 : decode cX5_flush 1 = .ok (.iload_n 1, 1) := by decide +kernel
theorem dX5_flush_2 : decode cX5_flush 2 = .ok (.invokevirtual 52, 3) := by decide +kernel
theorem dX5_flush_5 : decode cX5_flush 5 = .ok (.aload_n 0, 1) := by decide +kernel
theorem dX5_flush_6 : decode cX5_flush 6 = .ok (.getfield 10, 3) := by decide +kernel
theorem dX5_flush_9 : decode cX5_flush 9 = .ok (.iload_n 1, 1) := by decide +kernel
theorem dX5_flush_10 : decode cX5_flush 10 = .ok (.iconst 0, 1) := by decide +kernel
theorem dX5_flush_11 : decode cX5_flush 11 = .ok (.invokevirtual 94, 3) := by decide +kernel
theorem dX5_flush_14 : decode cX5_flush 14 = .ok (.ireturn, 1) := by decide +kernel
theorem dX5_tick_0 : decode cX5_tick 0 = .ok (.iload_n 1, 1) := by decide +kernel
theorem dX5_tick_1 : decode cX5_tick 1 = .ok (.bipush 60, 2) := by decide +kernel
theorem dX5_tick_3 : decode cX5_tick 3 = .ok (.invokestatic 97, 3) := by decide +kernel
theorem dX5_tick_6 : decode cX5_tick 6 = .ok (.iconst 0, 1) := by decide +kernel
theorem dX5_tick_7 : decode cX5_tick 7 = .ok (.istore_n 2, 1) := by decide +kernel
theorem dX5_tick_8 : decode cX5_tick 8 = .ok (.iload_n 2, 1) := by decide +kernel
theorem dX5_tick_9 : decode cX5_tick 9 = .ok (.iload_n 1, 1) := by decide +kernel
theorem dX5_tick_10 : decode cX5_tick 10 = .ok (.if_icmp .ge 16, 3) := by decide +kernel
theorem dX5_tick_13 : decode cX5_tick 13 = .ok (.aload_n 0, 1) := by decide +kernel
theorem dX5_tick_14 : decode cX5_tick 14 = .ok (.getfield 10, 3) := by decide +kernel
theorem dX5_tick_17 : decode cX5_tick 17 = .ok (.invokevirtual 100, 3) := by decide +kernel
theorem dX5_tick_20 : decode cX5_tick 20 = .ok (.iinc 2 1, 3) := by decide +kernel
theorem dX5_tick_23 : decode cX5_tick 23 = .ok (.goto (-15), 3) := by decide +kernel
theorem dX5_tick_26 : decode cX5_tick 26 = .ok (.aload_n 0, 1) := by decide +kernel
theorem dX5_tick_27 : decode cX5_tick 27 = .ok (.getfield 10, 3) := by decide +kernel
theorem dX5_tick_30 : decode cX5_tick 30 = .ok (.invokevirtual 103, 3) := by decide +kernel
theorem dX5_tick_33 : decode cX5_tick 33 = .ok (.ireturn, 1) := by decide +kernel
theorem dX5_clock_0 : decode cX5_clock 0 = .ok (.aload_n 0, 1) := by decide +kernel
theorem dX5_clock_1 : decode cX5_clock 1 = .ok (.getfield 10, 3) := by decide +kernel
theorem dX5_clock_4 : decode cX5_clock 4 = .ok (.getfield 87, 3) := by decide +kernel
theorem dX5_clock_7 : decode cX5_clock 7 = .ok (.ireturn, 1) := by decide +kernel
theorem dX5_clients_0 : decode cX5_clients 0 = .ok (.aload_n 0, 1) := by decide +kernel
theorem dX5_clients_1 : decode cX5_clients 1 = .ok (.getfield 10, 3) := by decide +kernel
theorem dX5_clients_4 : decode cX5_clients 4 = .ok (.getfield 26, 3) := by decide +kernel
theorem dX5_clients_7 : decode cX5_clients 7 = .ok (.ireturn, 1) := by decide +kernel
theorem dX5_server_0 : decode cX5_server 0 = .ok (.iload_n 1, 1) := by decide +kernel
theorem dX5_server_1 : decode cX5_server 1 = .ok (.invokestatic 69, 3) := by decide +kernel
theorem dX5_server_4 : decode cX5_server 4 = .ok (.iload_n 2, 1) := by decide +kernel
theorem dX5_server_5 : decode cX5_server 5 = .ok (.iconst 3, 1) := by decide +kernel
theorem dX5_server_6 : decode cX5_server 6 = .ok (.invokestatic 107, 3) := by decide +kernel
theorem dX5_server_9 : decode cX5_server 9 = .ok (.aload_n 0, 1) := by decide +kernel
theorem dX5_server_10 : decode cX5_server 10 = .ok (.getfield 10, 3) := by decide +kernel
theorem dX5_server_13 : decode cX5_server 13 = .ok (.getfield 110, 3) := by decide +kernel
theorem dX5_server_16 : decode cX5_server 16 = .ok (.iload_n 1, 1) := by decide +kernel
theorem dX5_server_17 : decode cX5_server 17 = .ok (.aaload, 1) := by decide +kernel
theorem dX5_server_18 : decode cX5_server 18 = .ok (.iload_n 2, 1) := by decide +kernel
theorem dX5_server_19 : decode cX5_server 19 = .ok (.aload_n 0, 1) := by decide +kernel
theorem dX5_server_20 : decode cX5_server 20 = .ok (.getfield 10, 3) := by decide +kernel
theorem dX5_server_23 : decode cX5_server 23 = .ok (.getfield 87, 3) := by decide +kernel
theorem dX5_server_26 : decode cX5_server 26 = .ok (.invokevirtual 114, 3) := by decide +kernel
theorem dX5_server_29 : decode cX5_server 29 = .ok (.ireturn, 1) := by decide +kernel
theorem dX5_onTheWay_0 : decode cX5_onTheWay 0 = .ok (.aload_n 0, 1) := by decide +kernel
theorem dX5_onTheWay_1 : decode cX5_onTheWay 1 = .ok (.getfield 10, 3) := by decide +kernel
theorem dX5_onTheWay_4 : decode cX5_onTheWay 4 = .ok (.invokevirtual 103, 3) := by decide +kernel
theorem dX5_onTheWay_7 : decode cX5_onTheWay 7 = .ok (.ireturn, 1) := by decide +kernel
theorem dX5_way_0 : decode cX5_way 0 = .ok (.iload_n 1, 1) := by decide +kernel
theorem dX5_way_1 : decode cX5_way 1 = .ok (.aload_n 0, 1) := by decide +kernel
theorem dX5_way_2 : decode cX5_way 2 = .ok (.getfield 10, 3) := by decide +kernel
theorem dX5_way_5 : decode cX5_way 5 = .ok (.invokevirtual 103, 3) := by decide +kernel
theorem dX5_way_8 : decode cX5_way 8 = .ok (.invokestatic 135, 3) := by decide +kernel
theorem dX5_way_11 : decode cX5_way 11 = .ok (.iload_n 2, 1) := by decide +kernel
theorem dX5_way_12 : decode cX5_way 12 = .ok (.iconst 3, 1) := by decide +kernel
theorem dX5_way_13 : decode cX5_way 13 = .ok (.invokestatic 107, 3) := by decide +kernel
theorem dX5_way_16 : decode cX5_way 16 = .ok (.aload_n 0, 1) := by decide +kernel
theorem dX5_way_17 : decode cX5_way 17 = .ok (.getfield 10, 3) := by decide +kernel
theorem dX5_way_20 : decode cX5_way 20 = .ok (.iload_n 1, 1) := by decide +kernel
theorem dX5_way_21 : decode cX5_way 21 = .ok (.iload_n 2, 1) := by decide +kernel
theorem dX5_way_22 : decode cX5_way 22 = .ok (.invokevirtual 141, 3) := by decide +kernel
theorem dX5_way_25 : decode cX5_way 25 = .ok (.ireturn, 1) := by decide +kernel
theorem dX5_has_0 : decode cX5_has 0 = .ok (.aload_n 0, 1) := by decide +kernel
theorem dX5_has_1 : decode cX5_has 1 = .ok (.iload_n 1, 1) := by decide +kernel
theorem dX5_has_2 : decode cX5_has 2 = .ok (.invokevirtual 52, 3) := by decide +kernel
theorem dX5_has_5 : decode cX5_has 5 = .ok (.iload_n 2, 1) := by decide +kernel
theorem dX5_has_6 : decode cX5_has 6 = .ok (.invokestatic 69, 3) := by decide +kernel
theorem dX5_has_9 : decode cX5_has 9 = .ok (.iload_n 3, 1) := by decide +kernel
theorem dX5_has_10 : decode cX5_has 10 = .ok (.iconst 5, 1) := by decide +kernel
theorem dX5_has_11 : decode cX5_has 11 = .ok (.invokestatic 107, 3) := by decide +kernel
theorem dX5_has_14 : decode cX5_has 14 = .ok (.aload_n 0, 1) := by decide +kernel
theorem dX5_has_15 : decode cX5_has 15 = .ok (.getfield 10, 3) := by decide +kernel
theorem dX5_has_18 : decode cX5_has 18 = .ok (.getfield 60, 3) := by decide +kernel
theorem dX5_has_21 : decode cX5_has 21 = .ok (.iload_n 1, 1) := by decide +kernel
theorem dX5_has_22 : decode cX5_has 22 = .ok (.aaload, 1) := by decide +kernel
theorem dX5_has_23 : decode cX5_has 23 = .ok (.astore 4, 2) := by decide +kernel
theorem dX5_has_25 : decode cX5_has 25 = .ok (.aload 4, 2) := by decide +kernel
theorem dX5_has_27 : decode cX5_has 27 = .ok (.getfield 76, 3) := by decide +kernel
theorem dX5_has_30 : decode cX5_has 30 = .ok (.iload_n 2, 1) := by decide +kernel
theorem dX5_has_31 : decode cX5_has 31 = .ok (.aaload, 1) := by decide +kernel
theorem dX5_has_32 : decode cX5_has 32 = .ok (.iload_n 3, 1) := by decide +kernel
theorem dX5_has_33 : decode cX5_has 33 = .ok (.aload_n 0, 1) := by decide +kernel
theorem dX5_has_34 : decode cX5_has 34 = .ok (.getfield 10, 3) := by decide +kernel
theorem dX5_has_37 : decode cX5_has 37 = .ok (.getfield 87, 3) := by decide +kernel
theorem dX5_has_40 : decode cX5_has 40 = .ok (.aload 4, 2) := by decide +kernel
theorem dX5_has_42 : decode cX5_has 42 = .ok (.getfield 144, 3) := by decide +kernel
theorem dX5_has_45 : decode cX5_has 45 = .ok (.invokevirtual 148, 3) := by decide +kernel
theorem dX5_has_48 : decode cX5_has 48 = .ok (.ireturn, 1) := by decide +kernel
theorem dX5_used_0 : decode cX5_used 0 = .ok (.aload_n 0, 1) := by decide +kernel
theorem dX5_used_1 : decode cX5_used 1 = .ok (.iload_n 1, 1) := by decide +kernel
theorem dX5_used_2 : decode cX5_used 2 = .ok (.invokevirtual 52, 3) := by decide +kernel
theorem dX5_used_5 : decode cX5_used 5 = .ok (.aload_n 0, 1) := by decide +kernel
theorem dX5_used_6 : decode cX5_used 6 = .ok (.getfield 10, 3) := by decide +kernel
theorem dX5_used_9 : decode cX5_used 9 = .ok (.getfield 60, 3) := by decide +kernel
theorem dX5_used_12 : decode cX5_used 12 = .ok (.iload_n 1, 1) := by decide +kernel
theorem dX5_used_13 : decode cX5_used 13 = .ok (.aaload, 1) := by decide +kernel
theorem dX5_used_14 : decode cX5_used 14 = .ok (.astore_n 3, 1) := by decide +kernel
theorem dX5_used_15 : decode cX5_used 15 = .ok (.iload_n 2, 1) := by decide +kernel
theorem dX5_used_16 : decode cX5_used 16 = .ok (.aload_n 3, 1) := by decide +kernel
theorem dX5_used_17 : decode cX5_used 17 = .ok (.getfield 151, 3) := by decide +kernel
theorem dX5_used_20 : decode cX5_used 20 = .ok (.invokestatic 135, 3) := by decide +kernel
theorem dX5_used_23 : decode cX5_used 23 = .ok (.aload_n 3, 1) := by decide +kernel
theorem dX5_used_24 : decode cX5_used 24 = .ok (.getfield 154, 3) := by decide +kernel
theorem dX5_used_27 : decode cX5_used 27 = .ok (.iload_n 2, 1) := by decide +kernel
theorem dX5_used_28 : decode cX5_used 28 = .ok (.iaload, 1) := by decide +kernel
theorem dX5_used_29 : decode cX5_used 29 = .ok (.ireturn, 1) := by decide +kernel
theorem dX5_told_0 : decode cX5_told 0 = .ok (.aload_n 0, 1) := by decide +kernel
theorem dX5_told_1 : decode cX5_told 1 = .ok (.iload_n 1, 1) := by decide +kernel
theorem dX5_told_2 : decode cX5_told 2 = .ok (.invokevirtual 52, 3) := by decide +kernel
theorem dX5_told_5 : decode cX5_told 5 = .ok (.iload_n 2, 1) := by decide +kernel
theorem dX5_told_6 : decode cX5_told 6 = .ok (.bipush 6, 2) := by decide +kernel
theorem dX5_told_8 : decode cX5_told 8 = .ok (.invokestatic 107, 3) := by decide +kernel
theorem dX5_told_11 : decode cX5_told 11 = .ok (.aload_n 0, 1) := by decide +kernel
theorem dX5_told_12 : decode cX5_told 12 = .ok (.getfield 10, 3) := by decide +kernel
theorem dX5_told_15 : decode cX5_told 15 = .ok (.getfield 60, 3) := by decide +kernel
theorem dX5_told_18 : decode cX5_told 18 = .ok (.iload_n 1, 1) := by decide +kernel
theorem dX5_told_19 : decode cX5_told 19 = .ok (.aaload, 1) := by decide +kernel
theorem dX5_told_20 : decode cX5_told 20 = .ok (.iload_n 2, 1) := by decide +kernel
theorem dX5_told_21 : decode cX5_told 21 = .ok (.invokevirtual 157, 3) := by decide +kernel
theorem dX5_told_24 : decode cX5_told 24 = .ok (.ireturn, 1) := by decide +kernel
theorem dX5_luck_0 : decode cX5_luck 0 = .ok (.aload_n 0, 1) := by decide +kernel
theorem dX5_luck_1 : decode cX5_luck 1 = .ok (.iload_n 1, 1) := by decide +kernel
theorem dX5_luck_2 : decode cX5_luck 2 = .ok (.invokevirtual 52, 3) := by decide +kernel
theorem dX5_luck_5 : decode cX5_luck 5 = .ok (.aload_n 0, 1) := by decide +kernel
theorem dX5_luck_6 : decode cX5_luck 6 = .ok (.getfield 10, 3) := by decide +kernel
theorem dX5_luck_9 : decode cX5_luck 9 = .ok (.getfield 60, 3) := by decide +kernel
theorem dX5_luck_12 : decode cX5_luck 12 = .ok (.iload_n 1, 1) := by decide +kernel
theorem dX5_luck_13 : decode cX5_luck 13 = .ok (.aaload, 1) := by decide +kernel
theorem dX5_luck_14 : decode cX5_luck 14 = .ok (.astore_n 2, 1) := by decide +kernel
theorem dX5_luck_15 : decode cX5_luck 15 = .ok (.aload_n 2, 1) := by decide +kernel
theorem dX5_luck_16 : decode cX5_luck 16 = .ok (.getfield 162, 3) := by decide +kernel
theorem dX5_luck_19 : decode cX5_luck 19 = .ok (.aload_n 2, 1) := by decide +kernel
theorem dX5_luck_20 : decode cX5_luck 20 = .ok (.getfield 165, 3) := by decide +kernel
theorem dX5_luck_23 : decode cX5_luck 23 = .ok (.iadd, 1) := by decide +kernel
theorem dX5_luck_24 : decode cX5_luck 24 = .ok (.istore_n 3, 1) := by decide +kernel
theorem dX5_luck_25 : decode cX5_luck 25 = .ok (.iload_n 3, 1) := by decide +kernel
theorem dX5_luck_26 : decode cX5_luck 26 = .ok (.ifCond .ne 7, 3) := by decide +kernel
theorem dX5_luck_29 : decode cX5_luck 29 = .ok (.dconst 0, 1) := by decide +kernel
theorem dX5_luck_30 : decode cX5_luck 30 = .ok (.goto 11, 3) := by decide +kernel
theorem dX5_luck_33 : decode cX5_luck 33 = .ok (.aload_n 2, 1) := by decide +kernel
theorem dX5_luck_34 : decode cX5_luck 34 = .ok (.getfield 162, 3) := by decide +kernel
theorem dX5_luck_37 : decode cX5_luck 37 = .ok (.i2d, 1) := by decide +kernel
theorem dX5_luck_38 : decode cX5_luck 38 = .ok (.iload_n 3, 1) := by decide +kernel
theorem dX5_luck_39 : decode cX5_luck 39 = .ok (.i2d, 1) := by decide +kernel
theorem dX5_luck_40 : decode cX5_luck 40 = .ok (.ddiv, 1) := by decide +kernel
theorem dX5_luck_41 : decode cX5_luck 41 = .ok (.dreturn, 1) := by decide +kernel
theorem dX5_stale_0 : decode cX5_stale 0 = .ok (.aload_n 0, 1) := by decide +kernel
theorem dX5_stale_1 : decode cX5_stale 1 = .ok (.getfield 10, 3) := by decide +kernel
theorem dX5_stale_4 : decode cX5_stale 4 = .ok (.invokevirtual 168, 3) := by decide +kernel
theorem dX5_stale_7 : decode cX5_stale 7 = .ok (.ireturn, 1) := by decide +kernel
theorem dX5_calmIn_0 : decode cX5_calmIn 0 = .ok (.iload_n 1, 1) := by decide +kernel
theorem dX5_calmIn_1 : decode cX5_calmIn 1 = .ok (.bipush 100, 2) := by decide +kernel
theorem dX5_calmIn_3 : decode cX5_calmIn 3 = .ok (.invokestatic 97, 3) := by decide +kernel
theorem dX5_calmIn_6 : decode cX5_calmIn 6 = .ok (.aload_n 0, 1) := by decide +kernel
theorem dX5_calmIn_7 : decode cX5_calmIn 7 = .ok (.getfield 16, 3) := by decide +kernel
theorem dX5_calmIn_10 : decode cX5_calmIn 10 = .ok (.aload_n 0, 1) := by decide +kernel
theorem dX5_calmIn_11 : decode cX5_calmIn 11 = .ok (.getfield 10, 3) := by decide +kernel
theorem dX5_calmIn_14 : decode cX5_calmIn 14 = .ok (.invokevirtual 171, 3) := by decide +kernel
theorem dX5_calmIn_17 : decode cX5_calmIn 17 = .ok (.iconst 0, 1) := by decide +kernel
theorem dX5_calmIn_18 : decode cX5_calmIn 18 = .ok (.istore_n 2, 1) := by decide +kernel
theorem dX5_calmIn_19 : decode cX5_calmIn 19 = .ok (.iload_n 2, 1) := by decide +kernel
theorem dX5_calmIn_20 : decode cX5_calmIn 20 = .ok (.iload_n 1, 1) := by decide +kernel
theorem dX5_calmIn_21 : decode cX5_calmIn 21 = .ok (.if_icmp .ge 26, 3) := by decide +kernel
theorem dX5_calmIn_24 : decode cX5_calmIn 24 = .ok (.aload_n 0, 1) := by decide +kernel
theorem dX5_calmIn_25 : decode cX5_calmIn 25 = .ok (.getfield 16, 3) := by decide +kernel
theorem dX5_calmIn_28 : decode cX5_calmIn 28 = .ok (.invokevirtual 175, 3) := by decide +kernel
theorem dX5_calmIn_31 : decode cX5_calmIn 31 = .ok (.ifCond .ne 16, 3) := by decide +kernel
theorem dX5_calmIn_34 : decode cX5_calmIn 34 = .ok (.aload_n 0, 1) := by decide +kernel
theorem dX5_calmIn_35 : decode cX5_calmIn 35 = .ok (.getfield 16, 3) := by decide +kernel
theorem dX5_calmIn_38 : decode cX5_calmIn 38 = .ok (.invokevirtual 100, 3) := by decide +kernel
theorem dX5_calmIn_41 : decode cX5_calmIn 41 = .ok (.iinc 2 1, 3) := by decide +kernel
theorem dX5_calmIn_44 : decode cX5_calmIn 44 = .ok (.goto (-25), 3) := by decide +kernel
theorem dX5_calmIn_47 : decode cX5_calmIn 47 = .ok (.aload_n 0, 1) := by decide +kernel
theorem dX5_calmIn_48 : decode cX5_calmIn 48 = .ok (.getfield 16, 3) := by decide +kernel
theorem dX5_calmIn_51 : decode cX5_calmIn 51 = .ok (.invokevirtual 175, 3) := by decide +kernel
theorem dX5_calmIn_54 : decode cX5_calmIn 54 = .ok (.ifCond .eq 7, 3) := by decide +kernel
theorem dX5_calmIn_57 : decode cX5_calmIn 57 = .ok (.iload_n 2, 1) := by decide +kernel
theorem dX5_calmIn_58 : decode cX5_calmIn 58 = .ok (.goto 4, 3) := by decide +kernel
theorem dX5_calmIn_61 : decode cX5_calmIn 61 = .ok (.iconst (-1), 1) := by decide +kernel
theorem dX5_calmIn_62 : decode cX5_calmIn 62 = .ok (.ireturn, 1) := by decide +kernel
theorem dX5_contentIn_0 : decode cX5_contentIn 0 = .ok (.iload_n 1, 1) := by decide +kernel
theorem dX5_contentIn_1 : decode cX5_contentIn 1 = .ok (.invokestatic 69, 3) := by decide +kernel
theorem dX5_contentIn_4 : decode cX5_contentIn 4 = .ok (.iload_n 2, 1) := by decide +kernel
theorem dX5_contentIn_5 : decode cX5_contentIn 5 = .ok (.bipush 100, 2) := by decide +kernel
theorem dX5_contentIn_7 : decode cX5_contentIn 7 = .ok (.invokestatic 97, 3) := by decide +kernel
theorem dX5_contentIn_10 : decode cX5_contentIn 10 = .ok (.aload_n 0, 1) := by decide +kernel
theorem dX5_contentIn_11 : decode cX5_contentIn 11 = .ok (.getfield 16, 3) := by decide +kernel
theorem dX5_contentIn_14 : decode cX5_contentIn 14 = .ok (.aload_n 0, 1) := by decide +kernel
theorem dX5_contentIn_15 : decode cX5_contentIn 15 = .ok (.getfield 10, 3) := by decide +kernel
theorem dX5_contentIn_18 : decode cX5_contentIn 18 = .ok (.invokevirtual 171, 3) := by decide +kernel
theorem dX5_contentIn_21 : decode cX5_contentIn 21 = .ok (.iconst 0, 1) := by decide +kernel
theorem dX5_contentIn_22 : decode cX5_contentIn 22 = .ok (.istore_n 3, 1) := by decide +kernel
theorem dX5_contentIn_23 : decode cX5_contentIn 23 = .ok (.iload_n 3, 1) := by decide +kernel
theorem dX5_contentIn_24 : decode cX5_contentIn 24 = .ok (.iload_n 2, 1) := by decide +kernel
theorem dX5_contentIn_25 : decode cX5_contentIn 25 = .ok (.if_icmp .ge 16, 3) := by decide +kernel
theorem dX5_contentIn_28 : decode cX5_contentIn 28 = .ok (.aload_n 0, 1) := by decide +kernel
theorem dX5_contentIn_29 : decode cX5_contentIn 29 = .ok (.getfield 16, 3) := by decide +kernel
theorem dX5_contentIn_32 : decode cX5_contentIn 32 = .ok (.invokevirtual 100, 3) := by decide +kernel
theorem dX5_contentIn_35 : decode cX5_contentIn 35 = .ok (.iinc 3 1, 3) := by decide +kernel
theorem dX5_contentIn_38 : decode cX5_contentIn 38 = .ok (.goto (-15), 3) := by decide +kernel
theorem dX5_contentIn_41 : decode cX5_contentIn 41 = .ok (.aload_n 0, 1) := by decide +kernel
theorem dX5_contentIn_42 : decode cX5_contentIn 42 = .ok (.getfield 16, 3) := by decide +kernel
theorem dX5_contentIn_45 : decode cX5_contentIn 45 = .ok (.getfield 110, 3) := by decide +kernel
theorem dX5_contentIn_48 : decode cX5_contentIn 48 = .ok (.iload_n 1, 1) := by decide +kernel
theorem dX5_contentIn_49 : decode cX5_contentIn 49 = .ok (.aaload, 1) := by decide +kernel
theorem dX5_contentIn_50 : decode cX5_contentIn 50 = .ok (.getfield 179, 3) := by decide +kernel
theorem dX5_contentIn_53 : decode cX5_contentIn 53 = .ok (.ireturn, 1) := by decide +kernel
theorem dX5_conflictsIn_0 : decode cX5_conflictsIn 0 = .ok (.aload_n 0, 1) := by decide +kernel
theorem dX5_conflictsIn_1 : decode cX5_conflictsIn 1 = .ok (.iload_n 1, 1) := by decide +kernel
theorem dX5_conflictsIn_2 : decode cX5_conflictsIn 2 = .ok (.invokevirtual 52, 3) := by decide +kernel
theorem dX5_conflictsIn_5 : decode cX5_conflictsIn 5 = .ok (.iload_n 2, 1) := by decide +kernel
theorem dX5_conflictsIn_6 : decode cX5_conflictsIn 6 = .ok (.bipush 100, 2) := by decide +kernel
theorem dX5_conflictsIn_8 : decode cX5_conflictsIn 8 = .ok (.invokestatic 97, 3) := by decide +kernel
theorem dX5_conflictsIn_11 : decode cX5_conflictsIn 11 = .ok (.aload_n 0, 1) := by decide +kernel
theorem dX5_conflictsIn_12 : decode cX5_conflictsIn 12 = .ok (.getfield 16, 3) := by decide +kernel
theorem dX5_conflictsIn_15 : decode cX5_conflictsIn 15 = .ok (.aload_n 0, 1) := by decide +kernel
theorem dX5_conflictsIn_16 : decode cX5_conflictsIn 16 = .ok (.getfield 10, 3) := by decide +kernel
theorem dX5_conflictsIn_19 : decode cX5_conflictsIn 19 = .ok (.invokevirtual 171, 3) := by decide +kernel
theorem dX5_conflictsIn_22 : decode cX5_conflictsIn 22 = .ok (.aload_n 0, 1) := by decide +kernel
theorem dX5_conflictsIn_23 : decode cX5_conflictsIn 23 = .ok (.getfield 16, 3) := by decide +kernel
theorem dX5_conflictsIn_26 : decode cX5_conflictsIn 26 = .ok (.iload_n 1, 1) := by decide +kernel
theorem dX5_conflictsIn_27 : decode cX5_conflictsIn 27 = .ok (.invokevirtual 56, 3) := by decide +kernel
theorem dX5_conflictsIn_30 : decode cX5_conflictsIn 30 = .ok (.pop, 1) := by decide +kernel
theorem dX5_conflictsIn_31 : decode cX5_conflictsIn 31 = .ok (.iconst 0, 1) := by decide +kernel
theorem dX5_conflictsIn_32 : decode cX5_conflictsIn 32 = .ok (.istore_n 3, 1) := by decide +kernel
theorem dX5_conflictsIn_33 : decode cX5_conflictsIn 33 = .ok (.iload_n 3, 1) := by decide +kernel
theorem dX5_conflictsIn_34 : decode cX5_conflictsIn 34 = .ok (.iload_n 2, 1) := by decide +kernel
theorem dX5_conflictsIn_35 : decode cX5_conflictsIn 35 = .ok (.if_icmp .ge 16, 3) := by decide +kernel
theorem dX5_conflictsIn_38 : decode cX5_conflictsIn 38 = .ok (.aload_n 0, 1) := by decide +kernel
theorem dX5_conflictsIn_39 : decode cX5_conflictsIn 39 = .ok (.getfield 16, 3) := by decide +kernel
theorem dX5_conflictsIn_42 : decode cX5_conflictsIn 42 = .ok (.invokevirtual 100, 3) := by decide +kernel
theorem dX5_conflictsIn_45 : decode cX5_conflictsIn 45 = .ok (.iinc 3 1, 3) := by decide +kernel
theorem dX5_conflictsIn_48 : decode cX5_conflictsIn 48 = .ok (.goto (-15), 3) := by decide +kernel
theorem dX5_conflictsIn_51 : decode cX5_conflictsIn 51 = .ok (.aload_n 0, 1) := by decide +kernel
theorem dX5_conflictsIn_52 : decode cX5_conflictsIn 52 = .ok (.getfield 16, 3) := by decide +kernel
theorem dX5_conflictsIn_55 : decode cX5_conflictsIn 55 = .ok (.getfield 60, 3) := by decide +kernel
theorem dX5_conflictsIn_58 : decode cX5_conflictsIn 58 = .ok (.iload_n 1, 1) := by decide +kernel
theorem dX5_conflictsIn_59 : decode cX5_conflictsIn 59 = .ok (.aaload, 1) := by decide +kernel
theorem dX5_conflictsIn_60 : decode cX5_conflictsIn 60 = .ok (.getfield 180, 3) := by decide +kernel
theorem dX5_conflictsIn_63 : decode cX5_conflictsIn 63 = .ok (.aload_n 0, 1) := by decide +kernel
theorem dX5_conflictsIn_64 : decode cX5_conflictsIn 64 = .ok (.getfield 10, 3) := by decide +kernel
theorem dX5_conflictsIn_67 : decode cX5_conflictsIn 67 = .ok (.getfield 60, 3) := by decide +kernel
theorem dX5_conflictsIn_70 : decode cX5_conflictsIn 70 = .ok (.iload_n 1, 1) := by decide +kernel
theorem dX5_conflictsIn_71 : decode cX5_conflictsIn 71 = .ok (.aaload, 1) := by decide +kernel
theorem dX5_conflictsIn_72 : decode cX5_conflictsIn 72 = .ok (.getfield 180, 3) := by decide +kernel
theorem dX5_conflictsIn_75 : decode cX5_conflictsIn 75 = .ok (.isub, 1) := by decide +kernel
theorem dX5_conflictsIn_76 : decode cX5_conflictsIn 76 = .ok (.ireturn, 1) := by decide +kernel
theorem dX5_digest_0 : decode cX5_digest 0 = .ok (.ldc2_w 183, 3) := by decide +kernel
theorem dX5_digest_3 : decode cX5_digest 3 = .ok (.lstore_n 1, 1) := by decide +kernel
theorem dX5_digest_4 : decode cX5_digest 4 = .ok (.lload_n 1, 1) := by decide +kernel
theorem dX5_digest_5 : decode cX5_digest 5 = .ok (.ldc2_w 185, 3) := by decide +kernel
theorem dX5_digest_8 : decode cX5_digest 8 = .ok (.lmul, 1) := by decide +kernel
theorem dX5_digest_9 : decode cX5_digest 9 = .ok (.aload_n 0, 1) := by decide +kernel
theorem dX5_digest_10 : decode cX5_digest 10 = .ok (.getfield 10, 3) := by decide +kernel
theorem dX5_digest_13 : decode cX5_digest 13 = .ok (.getfield 87, 3) := by decide +kernel
theorem dX5_digest_16 : decode cX5_digest 16 = .ok (.i2l, 1) := by decide +kernel
theorem dX5_digest_17 : decode cX5_digest 17 = .ok (.ladd, 1) := by decide +kernel
theorem dX5_digest_18 : decode cX5_digest 18 = .ok (.lstore_n 1, 1) := by decide +kernel
theorem dX5_digest_19 : decode cX5_digest 19 = .ok (.lload_n 1, 1) := by decide +kernel
theorem dX5_digest_20 : decode cX5_digest 20 = .ok (.ldc2_w 185, 3) := by decide +kernel
theorem dX5_digest_23 : decode cX5_digest 23 = .ok (.lmul, 1) := by decide +kernel
theorem dX5_digest_24 : decode cX5_digest 24 = .ok (.aload_n 0, 1) := by decide +kernel
theorem dX5_digest_25 : decode cX5_digest 25 = .ok (.getfield 10, 3) := by decide +kernel
theorem dX5_digest_28 : decode cX5_digest 28 = .ok (.getfield 26, 3) := by decide +kernel
theorem dX5_digest_31 : decode cX5_digest 31 = .ok (.i2l, 1) := by decide +kernel
theorem dX5_digest_32 : decode cX5_digest 32 = .ok (.ladd, 1) := by decide +kernel
theorem dX5_digest_33 : decode cX5_digest 33 = .ok (.lstore_n 1, 1) := by decide +kernel
theorem dX5_digest_34 : decode cX5_digest 34 = .ok (.lload_n 1, 1) := by decide +kernel
theorem dX5_digest_35 : decode cX5_digest 35 = .ok (.ldc2_w 185, 3) := by decide +kernel
theorem dX5_digest_38 : decode cX5_digest 38 = .ok (.lmul, 1) := by decide +kernel
theorem dX5_digest_39 : decode cX5_digest 39 = .ok (.aload_n 0, 1) := by decide +kernel
theorem dX5_digest_40 : decode cX5_digest 40 = .ok (.getfield 10, 3) := by decide +kernel
theorem dX5_digest_43 : decode cX5_digest 43 = .ok (.invokevirtual 103, 3) := by decide +kernel
theorem dX5_digest_46 : decode cX5_digest 46 = .ok (.i2l, 1) := by decide +kernel
theorem dX5_digest_47 : decode cX5_digest 47 = .ok (.ladd, 1) := by decide +kernel
theorem dX5_digest_48 : decode cX5_digest 48 = .ok (.lstore_n 1, 1) := by decide +kernel
theorem dX5_digest_49 : decode cX5_digest 49 = .ok (.lload_n 1, 1) := by decide +kernel
theorem dX5_digest_50 : decode cX5_digest 50 = .ok (.ldc2_w 185, 3) := by decide +kernel
theorem dX5_digest_53 : decode cX5_digest 53 = .ok (.lmul, 1) := by decide +kernel
theorem dX5_digest_54 : decode cX5_digest 54 = .ok (.aload_n 0, 1) := by decide +kernel
theorem dX5_digest_55 : decode cX5_digest 55 = .ok (.getfield 10, 3) := by decide +kernel
theorem dX5_digest_58 : decode cX5_digest 58 = .ok (.invokevirtual 168, 3) := by decide +kernel
theorem dX5_digest_61 : decode cX5_digest 61 = .ok (.i2l, 1) := by decide +kernel
theorem dX5_digest_62 : decode cX5_digest 62 = .ok (.ladd, 1) := by decide +kernel
theorem dX5_digest_63 : decode cX5_digest 63 = .ok (.lstore_n 1, 1) := by decide +kernel
theorem dX5_digest_64 : decode cX5_digest 64 = .ok (.iconst 0, 1) := by decide +kernel
theorem dX5_digest_65 : decode cX5_digest 65 = .ok (.istore_n 3, 1) := by decide +kernel
theorem dX5_digest_66 : decode cX5_digest 66 = .ok (.iload_n 3, 1) := by decide +kernel
theorem dX5_digest_67 : decode cX5_digest 67 = .ok (.bipush 12, 2) := by decide +kernel
theorem dX5_digest_69 : decode cX5_digest 69 = .ok (.if_icmp .ge 53, 3) := by decide +kernel
theorem dX5_digest_72 : decode cX5_digest 72 = .ok (.iconst 0, 1) := by decide +kernel
theorem dX5_digest_73 : decode cX5_digest 73 = .ok (.istore 4, 2) := by decide +kernel
theorem dX5_digest_75 : decode cX5_digest 75 = .ok (.iload 4, 2) := by decide +kernel
theorem dX5_digest_77 : decode cX5_digest 77 = .ok (.iconst 3, 1) := by decide +kernel
theorem dX5_digest_78 : decode cX5_digest 78 = .ok (.if_icmp .gt 38, 3) := by decide +kernel
theorem dX5_digest_81 : decode cX5_digest 81 = .ok (.lload_n 1, 1) := by decide +kernel
theorem dX5_digest_82 : decode cX5_digest 82 = .ok (.ldc2_w 185, 3) := by decide +kernel
theorem dX5_digest_85 : decode cX5_digest 85 = .ok (.lmul, 1) := by decide +kernel
theorem dX5_digest_86 : decode cX5_digest 86 = .ok (.aload_n 0, 1) := by decide +kernel
theorem dX5_digest_87 : decode cX5_digest 87 = .ok (.getfield 10, 3) := by decide +kernel
theorem dX5_digest_90 : decode cX5_digest 90 = .ok (.getfield 110, 3) := by decide +kernel
theorem dX5_digest_93 : decode cX5_digest 93 = .ok (.iload_n 3, 1) := by decide +kernel
theorem dX5_digest_94 : decode cX5_digest 94 = .ok (.aaload, 1) := by decide +kernel
theorem dX5_digest_95 : decode cX5_digest 95 = .ok (.iload 4, 2) := by decide +kernel
theorem dX5_digest_97 : decode cX5_digest 97 = .ok (.aload_n 0, 1) := by decide +kernel
theorem dX5_digest_98 : decode cX5_digest 98 = .ok (.getfield 10, 3) := by decide +kernel
theorem dX5_digest_101 : decode cX5_digest 101 = .ok (.getfield 87, 3) := by decide +kernel
theorem dX5_digest_104 : decode cX5_digest 104 = .ok (.invokevirtual 114, 3) := by decide +kernel
theorem dX5_digest_107 : decode cX5_digest 107 = .ok (.i2l, 1) := by decide +kernel
theorem dX5_digest_108 : decode cX5_digest 108 = .ok (.ladd, 1) := by decide +kernel
theorem dX5_digest_109 : decode cX5_digest 109 = .ok (.lstore_n 1, 1) := by decide +kernel
theorem dX5_digest_110 : decode cX5_digest 110 = .ok (.iinc 4 1, 3) := by decide +kernel
theorem dX5_digest_113 : decode cX5_digest 113 = .ok (.goto (-38), 3) := by decide +kernel
theorem dX5_digest_116 : decode cX5_digest 116 = .ok (.iinc 3 1, 3) := by decide +kernel
theorem dX5_digest_119 : decode cX5_digest 119 = .ok (.goto (-53), 3) := by decide +kernel
theorem dX5_digest_122 : decode cX5_digest 122 = .ok (.iconst 0, 1) := by decide +kernel
theorem dX5_digest_123 : decode cX5_digest 123 = .ok (.istore_n 3, 1) := by decide +kernel
theorem dX5_digest_124 : decode cX5_digest 124 = .ok (.iload_n 3, 1) := by decide +kernel
theorem dX5_digest_125 : decode cX5_digest 125 = .ok (.aload_n 0, 1) := by decide +kernel
theorem dX5_digest_126 : decode cX5_digest 126 = .ok (.getfield 10, 3) := by decide +kernel
theorem dX5_digest_129 : decode cX5_digest 129 = .ok (.getfield 26, 3) := by decide +kernel
theorem dX5_digest_132 : decode cX5_digest 132 = .ok (.if_icmp .ge 30, 3) := by decide +kernel
theorem dX5_digest_135 : decode cX5_digest 135 = .ok (.aload_n 0, 1) := by decide +kernel
theorem dX5_digest_136 : decode cX5_digest 136 = .ok (.getfield 10, 3) := by decide +kernel
theorem dX5_digest_139 : decode cX5_digest 139 = .ok (.getfield 60, 3) := by decide +kernel
theorem dX5_digest_142 : decode cX5_digest 142 = .ok (.iload_n 3, 1) := by decide +kernel
theorem dX5_digest_143 : decode cX5_digest 143 = .ok (.aaload, 1) := by decide +kernel
theorem dX5_digest_144 : decode cX5_digest 144 = .ok (.lload_n 1, 1) := by decide +kernel
theorem dX5_digest_145 : decode cX5_digest 145 = .ok (.aload_n 0, 1) := by decide +kernel
theorem dX5_digest_146 : decode cX5_digest 146 = .ok (.getfield 10, 3) := by decide +kernel
theorem dX5_digest_149 : decode cX5_digest 149 = .ok (.getfield 87, 3) := by decide +kernel
theorem dX5_digest_152 : decode cX5_digest 152 = .ok (.invokevirtual 187, 3) := by decide +kernel
theorem dX5_digest_155 : decode cX5_digest 155 = .ok (.lstore_n 1, 1) := by decide +kernel
theorem dX5_digest_156 : decode cX5_digest 156 = .ok (.iinc 3 1, 3) := by decide +kernel
theorem dX5_digest_159 : decode cX5_digest 159 = .ok (.goto (-35), 3) := by decide +kernel
theorem dX5_digest_162 : decode cX5_digest 162 = .ok (.aload_n 0, 1) := by decide +kernel
theorem dX5_digest_163 : decode cX5_digest 163 = .ok (.getfield 10, 3) := by decide +kernel
theorem dX5_digest_166 : decode cX5_digest 166 = .ok (.lload_n 1, 1) := by decide +kernel
theorem dX5_digest_167 : decode cX5_digest 167 = .ok (.invokevirtual 191, 3) := by decide +kernel
theorem dX5_digest_170 : decode cX5_digest 170 = .ok (.lreturn, 1) := by decide +kernel
theorem dX5_checkClient_0 : decode cX5_checkClient 0 = .ok (.aload_n 0, 1) := by decide +kernel
theorem dX5_checkClient_1 : decode cX5_checkClient 1 = .ok (.getfield 10, 3) := by decide +kernel
theorem dX5_checkClient_4 : decode cX5_checkClient 4 = .ok (.iload_n 1, 1) := by decide +kernel
theorem dX5_checkClient_5 : decode cX5_checkClient 5 = .ok (.invokevirtual 195, 3) := by decide +kernel
theorem dX5_checkClient_8 : decode cX5_checkClient 8 = .ok (.ifCond .ne 13, 3) := by decide +kernel
theorem dX5_checkClient_11 : decode cX5_checkClient 11 = .ok (.new 199, 3) := by decide +kernel
theorem dX5_checkClient_14 : decode cX5_checkClient 14 = .ok (.dup, 1) := by decide +kernel
theorem dX5_checkClient_15 : decode cX5_checkClient 15 = .ok (.ldc 201, 2) := by decide +kernel
theorem dX5_checkClient_17 : decode cX5_checkClient 17 = .ok (.invokespecial 203, 3) := by decide +kernel
theorem dX5_checkClient_20 : decode cX5_checkClient 20 = .ok (.athrow, 1) := by decide +kernel
theorem dX5_checkClient_21 : decode cX5_checkClient 21 = .ok (.return_, 1) := by decide +kernel
theorem dX5_checkFile_0 : decode cX5_checkFile 0 = .ok (.iload_n 0, 1) := by decide +kernel
theorem dX5_checkFile_1 : decode cX5_checkFile 1 = .ok (.invokestatic 204, 3) := by decide +kernel
theorem dX5_checkFile_4 : decode cX5_checkFile 4 = .ok (.ifCond .ne 13, 3) := by decide +kernel
theorem dX5_checkFile_7 : decode cX5_checkFile 7 = .ok (.new 199, 3) := by decide +kernel
theorem dX5_checkFile_10 : decode cX5_checkFile 10 = .ok (.dup, 1) := by decide +kernel
theorem dX5_checkFile_11 : decode cX5_checkFile 11 = .ok (.ldc 207, 2) := by decide +kernel
theorem dX5_checkFile_13 : decode cX5_checkFile 13 = .ok (.invokespecial 203, 3) := by decide +kernel
theorem dX5_checkFile_16 : decode cX5_checkFile 16 = .ok (.athrow, 1) := by decide +kernel
theorem dX5_checkFile_17 : decode cX5_checkFile 17 = .ok (.return_, 1) := by decide +kernel
theorem dX5_checkPlace_0 : decode cX5_checkPlace 0 = .ok (.iload_n 0, 1) := by decide +kernel
theorem dX5_checkPlace_1 : decode cX5_checkPlace 1 = .ok (.ifCond .lt 8, 3) := by decide +kernel
theorem dX5_checkPlace_4 : decode cX5_checkPlace 4 = .ok (.iload_n 0, 1) := by decide +kernel
theorem dX5_checkPlace_5 : decode cX5_checkPlace 5 = .ok (.iload_n 1, 1) := by decide +kernel
theorem dX5_checkPlace_6 : decode cX5_checkPlace 6 = .ok (.if_icmp .lt 13, 3) := by decide +kernel
theorem dX5_checkPlace_9 : decode cX5_checkPlace 9 = .ok (.new 199, 3) := by decide +kernel
theorem dX5_checkPlace_12 : decode cX5_checkPlace 12 = .ok (.dup, 1) := by decide +kernel
theorem dX5_checkPlace_13 : decode cX5_checkPlace 13 = .ok (.ldc 209, 2) := by decide +kernel
theorem dX5_checkPlace_15 : decode cX5_checkPlace 15 = .ok (.invokespecial 203, 3) := by decide +kernel
theorem dX5_checkPlace_18 : decode cX5_checkPlace 18 = .ok (.athrow, 1) := by decide +kernel
theorem dX5_checkPlace_19 : decode cX5_checkPlace 19 = .ok (.return_, 1) := by decide +kernel
theorem dX5_checkWhat_0 : decode cX5_checkWhat 0 = .ok (.iload_n 0, 1) := by decide +kernel
theorem dX5_checkWhat_1 : decode cX5_checkWhat 1 = .ok (.ifCond .lt 8, 3) := by decide +kernel
theorem dX5_checkWhat_4 : decode cX5_checkWhat 4 = .ok (.iload_n 0, 1) := by decide +kernel
theorem dX5_checkWhat_5 : decode cX5_checkWhat 5 = .ok (.iload_n 1, 1) := by decide +kernel
theorem dX5_checkWhat_6 : decode cX5_checkWhat 6 = .ok (.if_icmp .le 13, 3) := by decide +kernel
theorem dX5_checkWhat_9 : decode cX5_checkWhat 9 = .ok (.new 19, 3) := by decide +kernel
theorem dX5_checkWhat_12 : decode cX5_checkWhat 12 = .ok (.dup, 1) := by decide +kernel
theorem dX5_checkWhat_13 : decode cX5_checkWhat 13 = .ok (.ldc 211, 2) := by decide +kernel
theorem dX5_checkWhat_15 : decode cX5_checkWhat 15 = .ok (.invokespecial 23, 3) := by decide +kernel
theorem dX5_checkWhat_18 : decode cX5_checkWhat 18 = .ok (.athrow, 1) := by decide +kernel
theorem dX5_checkWhat_19 : decode cX5_checkWhat 19 = .ok (.return_, 1) := by decide +kernel
theorem dX5_checkTicks_0 : decode cX5_checkTicks 0 = .ok (.iload_n 0, 1) := by decide +kernel
theorem dX5_checkTicks_1 : decode cX5_checkTicks 1 = .ok (.iconst 1, 1) := by decide +kernel
theorem dX5_checkTicks_2 : decode cX5_checkTicks 2 = .ok (.if_icmp .lt 8, 3) := by decide +kernel
theorem dX5_checkTicks_5 : decode cX5_checkTicks 5 = .ok (.iload_n 0, 1) := by decide +kernel
theorem dX5_checkTicks_6 : decode cX5_checkTicks 6 = .ok (.iload_n 1, 1) := by decide +kernel
theorem dX5_checkTicks_7 : decode cX5_checkTicks 7 = .ok (.if_icmp .le 13, 3) := by decide +kernel
theorem dX5_checkTicks_10 : decode cX5_checkTicks 10 = .ok (.new 19, 3) := by decide +kernel
theorem dX5_checkTicks_13 : decode cX5_checkTicks 13 = .ok (.dup, 1) := by decide +kernel
theorem dX5_checkTicks_14 : decode cX5_checkTicks 14 = .ok (.ldc 213, 2) := by decide +kernel
theorem dX5_checkTicks_16 : decode cX5_checkTicks 16 = .ok (.invokespecial 23, 3) := by decide +kernel
theorem dX5_checkTicks_19 : decode cX5_checkTicks 19 = .ok (.athrow, 1) := by decide +kernel
theorem dX5_checkTicks_20 : decode cX5_checkTicks 20 = .ok (.return_, 1) := by decide +kernel
theorem dX5_isFile_0 : decode cX5_isFile 0 = .ok (.iload_n 0, 1) := by decide +kernel
theorem dX5_isFile_1 : decode cX5_isFile 1 = .ok (.ifCond .lt 13, 3) := by decide +kernel
theorem dX5_isFile_4 : decode cX5_isFile 4 = .ok (.iload_n 0, 1) := by decide +kernel
theorem dX5_isFile_5 : decode cX5_isFile 5 = .ok (.bipush 12, 2) := by decide +kernel
theorem dX5_isFile_7 : decode cX5_isFile 7 = .ok (.if_icmp .ge 7, 3) := by decide +kernel
theorem dX5_isFile_10 : decode cX5_isFile 10 = .ok (.iconst 1, 1) := by decide +kernel
theorem dX5_isFile_11 : decode cX5_isFile 11 = .ok (.goto 4, 3) := by decide +kernel
theorem dX5_isFile_14 : decode cX5_isFile 14 = .ok (.iconst 0, 1) := by decide +kernel
theorem dX5_isFile_15 : decode cX5_isFile 15 = .ok (.ireturn, 1) := by decide +kernel
theorem dJ9_floorMod_7cf53_0 : decode cJ9_floorMod_7cf53 0 = .ok (.iload_n 0, 1) := by decide +kernel
theorem dJ9_floorMod_7cf53_1 : decode cJ9_floorMod_7cf53 1 = .ok (.iload_n 1, 1) := by decide +kernel
theorem dJ9_floorMod_7cf53_2 : decode cJ9_floorMod_7cf53 2 = .ok (.irem, 1) := by decide +kernel
theorem dJ9_floorMod_7cf53_3 : decode cJ9_floorMod_7cf53 3 = .ok (.istore_n 2, 1) := by decide +kernel
theorem dJ9_floorMod_7cf53_4 : decode cJ9_floorMod_7cf53 4 = .ok (.iload_n 0, 1) := by decide +kernel
theorem dJ9_floorMod_7cf53_5 : decode cJ9_floorMod_7cf53 5 = .ok (.iload_n 1, 1) := by decide +kernel
theorem dJ9_floorMod_7cf53_6 : decode cJ9_floorMod_7cf53 6 = .ok (.ixor, 1) := by decide +kernel
theorem dJ9_floorMod_7cf53_7 : decode cJ9_floorMod_7cf53 7 = .ok (.ifCond .ge 11, 3) := by decide +kernel
theorem dJ9_floorMod_7cf53_10 : decode cJ9_floorMod_7cf53 10 = .ok (.iload_n 2, 1) := by decide +kernel
theorem dJ9_floorMod_7cf53_11 : decode cJ9_floorMod_7cf53 11 = .ok (.ifCond .eq 7, 3) := by decide +kernel
theorem dJ9_floorMod_7cf53_14 : decode cJ9_floorMod_7cf53 14 = .ok (.iload_n 2, 1) := by decide +kernel
theorem dJ9_floorMod_7cf53_15 : decode cJ9_floorMod_7cf53 15 = .ok (.iload_n 1, 1) := by decide +kernel
theorem dJ9_floorMod_7cf53_16 : decode cJ9_floorMod_7cf53 16 = .ok (.iadd, 1) := by decide +kernel
theorem dJ9_floorMod_7cf53_17 : decode cJ9_floorMod_7cf53 17 = .ok (.ireturn, 1) := by decide +kernel
theorem dJ9_floorMod_7cf53_18 : decode cJ9_floorMod_7cf53 18 = .ok (.iload_n 2, 1) := by decide +kernel
theorem dJ9_floorMod_7cf53_19 : decode cJ9_floorMod_7cf53 19 = .ok (.ireturn, 1) := by decide +kernel
theorem dJ9_max_7cf53_0 : decode cJ9_max_7cf53 0 = .ok (.iload_n 0, 1) := by decide +kernel
theorem dJ9_max_7cf53_1 : decode cJ9_max_7cf53 1 = .ok (.iload_n 1, 1) := by decide +kernel
theorem dJ9_max_7cf53_2 : decode cJ9_max_7cf53 2 = .ok (.if_icmp .lt 7, 3) := by decide +kernel
theorem dJ9_max_7cf53_5 : decode cJ9_max_7cf53 5 = .ok (.iload_n 0, 1) := by decide +kernel
theorem dJ9_max_7cf53_6 : decode cJ9_max_7cf53 6 = .ok (.goto 4, 3) := by decide +kernel
theorem dJ9_max_7cf53_9 : decode cJ9_max_7cf53 9 = .ok (.iload_n 1, 1) := by decide +kernel
theorem dJ9_max_7cf53_10 : decode cJ9_max_7cf53 10 = .ok (.ireturn, 1) := by decide +kernel
theorem dL_below_0 : decode cL_below 0 = .ok (.iload_n 0, 1) := by decide +kernel
theorem dL_below_1 : decode cL_below 1 = .ok (.ldc 7, 2) := by decide +kernel
theorem dL_below_3 : decode cL_below 3 = .ok (.iand, 1) := by decide +kernel
theorem dL_below_4 : decode cL_below 4 = .ok (.iload_n 1, 1) := by decide +kernel
theorem dL_below_5 : decode cL_below 5 = .ok (.irem, 1) := by decide +kernel
theorem dL_below_6 : decode cL_below 6 = .ok (.ireturn, 1) := by decide +kernel
theorem dL_cell_0 : decode cL_cell 0 = .ok (.iload_n 1, 1) := by decide +kernel
theorem dL_cell_1 : decode cL_cell 1 = .ok (.aload_n 0, 1) := by decide +kernel
theorem dL_cell_2 : decode cL_cell 2 = .ok (.arraylength, 1) := by decide +kernel
theorem dL_cell_3 : decode cL_cell 3 = .ok (.if_icmp .ge 9, 3) := by decide +kernel
theorem dL_cell_6 : decode cL_cell 6 = .ok (.aload_n 0, 1) := by decide +kernel
theorem dL_cell_7 : decode cL_cell 7 = .ok (.iload_n 1, 1) := by decide +kernel
theorem dL_cell_8 : decode cL_cell 8 = .ok (.iaload, 1) := by decide +kernel
theorem dL_cell_9 : decode cL_cell 9 = .ok (.goto 9, 3) := by decide +kernel
theorem dL_cell_12 : decode cL_cell 12 = .ok (.ldc 8, 2) := by decide +kernel
theorem dL_cell_14 : decode cL_cell 14 = .ok (.iload_n 1, 1) := by decide +kernel
theorem dL_cell_15 : decode cL_cell 15 = .ok (.iconst 3, 1) := by decide +kernel
theorem dL_cell_16 : decode cL_cell 16 = .ok (.iadd, 1) := by decide +kernel
theorem dL_cell_17 : decode cL_cell 17 = .ok (.imul, 1) := by decide +kernel
theorem dL_cell_18 : decode cL_cell 18 = .ok (.ireturn, 1) := by decide +kernel
theorem dL_law_0 : decode cL_law 0 = .ok (.new 9, 3) := by decide +kernel
theorem dL_law_3 : decode cL_law 3 = .ok (.dup, 1) := by decide +kernel
theorem dL_law_4 : decode cL_law 4 = .ok (.invokespecial 11, 3) := by decide +kernel
theorem dL_law_7 : decode cL_law 7 = .ok (.astore_n 1, 1) := by decide +kernel
theorem dL_law_8 : decode cL_law 8 = .ok (.iconst 2, 1) := by decide +kernel
theorem dL_law_9 : decode cL_law 9 = .ok (.aload_n 0, 1) := by decide +kernel
theorem dL_law_10 : decode cL_law 10 = .ok (.iconst 0, 1) := by decide +kernel
theorem dL_law_11 : decode cL_law 11 = .ok (.invokestatic 12, 3) := by decide +kernel
theorem dL_law_14 : decode cL_law 14 = .ok (.iconst 3, 1) := by decide +kernel
theorem dL_law_15 : decode cL_law 15 = .ok (.invokestatic 18, 3) := by decide +kernel
theorem dL_law_18 : decode cL_law 18 = .ok (.iadd, 1) := by decide +kernel
theorem dL_law_19 : decode cL_law 19 = .ok (.istore_n 2, 1) := by decide +kernel
theorem dL_law_20 : decode cL_law 20 = .ok (.iconst 0, 1) := by decide +kernel
theorem dL_law_21 : decode cL_law 21 = .ok (.istore_n 3, 1) := by decide +kernel
theorem dL_law_22 : decode cL_law 22 = .ok (.iload_n 3, 1) := by decide +kernel
theorem dL_law_23 : decode cL_law 23 = .ok (.iload_n 2, 1) := by decide +kernel
theorem dL_law_24 : decode cL_law 24 = .ok (.if_icmp .ge 43, 3) := by decide +kernel
theorem dL_law_27 : decode cL_law 27 = .ok (.aload_n 1, 1) := by decide +kernel
theorem dL_law_28 : decode cL_law 28 = .ok (.iconst 1, 1) := by decide +kernel
theorem dL_law_29 : decode cL_law 29 = .ok (.aload_n 0, 1) := by decide +kernel
theorem dL_law_30 : decode cL_law 30 = .ok (.iconst 0, 1) := by decide +kernel
theorem dL_law_31 : decode cL_law 31 = .ok (.invokestatic 12, 3) := by decide +kernel
theorem dL_law_34 : decode cL_law 34 = .ok (.iconst 3, 1) := by decide +kernel
theorem dL_law_35 : decode cL_law 35 = .ok (.iload_n 3, 1) := by decide +kernel
theorem dL_law_36 : decode cL_law 36 = .ok (.imul, 1) := by decide +kernel
theorem dL_law_37 : decode cL_law 37 = .ok (.ishr, 1) := by decide +kernel
theorem dL_law_38 : decode cL_law 38 = .ok (.bipush 6, 2) := by decide +kernel
theorem dL_law_40 : decode cL_law 40 = .ok (.invokestatic 18, 3) := by decide +kernel
theorem dL_law_43 : decode cL_law 43 = .ok (.iadd, 1) := by decide +kernel
theorem dL_law_44 : decode cL_law 44 = .ok (.aload_n 0, 1) := by decide +kernel
theorem dL_law_45 : decode cL_law 45 = .ok (.iconst 1, 1) := by decide +kernel
theorem dL_law_46 : decode cL_law 46 = .ok (.invokestatic 12, 3) := by decide +kernel
theorem dL_law_49 : decode cL_law 49 = .ok (.iconst 2, 1) := by decide +kernel
theorem dL_law_50 : decode cL_law 50 = .ok (.iload_n 3, 1) := by decide +kernel
theorem dL_law_51 : decode cL_law 51 = .ok (.imul, 1) := by decide +kernel
theorem dL_law_52 : decode cL_law 52 = .ok (.ishr, 1) := by decide +kernel
theorem dL_law_53 : decode cL_law 53 = .ok (.iconst 3, 1) := by decide +kernel
theorem dL_law_54 : decode cL_law 54 = .ok (.invokestatic 18, 3) := by decide +kernel
theorem dL_law_57 : decode cL_law 57 = .ok (.invokevirtual 22, 3) := by decide +kernel
theorem dL_law_60 : decode cL_law 60 = .ok (.pop, 1) := by decide +kernel
theorem dL_law_61 : decode cL_law 61 = .ok (.iinc 3 1, 3) := by decide +kernel
theorem dL_law_64 : decode cL_law 64 = .ok (.goto (-42), 3) := by decide +kernel
theorem dL_law_67 : decode cL_law 67 = .ok (.iload_n 2, 1) := by decide +kernel
theorem dL_law_68 : decode cL_law 68 = .ok (.newarray .int, 2) := by decide +kernel
theorem dL_law_70 : decode cL_law 70 = .ok (.astore_n 3, 1) := by decide +kernel
theorem dL_law_71 : decode cL_law 71 = .ok (.iconst 0, 1) := by decide +kernel
theorem dL_law_72 : decode cL_law 72 = .ok (.istore 4, 2) := by decide +kernel
theorem dL_law_74 : decode cL_law 74 = .ok (.iconst 0, 1) := by decide +kernel
theorem dL_law_75 : decode cL_law 75 = .ok (.istore 5, 2) := by decide +kernel
theorem dL_law_77 : decode cL_law 77 = .ok (.iload 5, 2) := by decide +kernel
theorem dL_law_79 : decode cL_law 79 = .ok (.bipush 48, 2) := by decide +kernel
theorem dL_law_81 : decode cL_law 81 = .ok (.if_icmp .ge 541, 3) := by decide +kernel
theorem dL_law_84 : decode cL_law 84 = .ok (.aload_n 0, 1) := by decide +kernel
theorem dL_law_85 : decode cL_law 85 = .ok (.iconst 2, 1) := by decide +kernel
theorem dL_law_86 : decode cL_law 86 = .ok (.iload 5, 2) := by decide +kernel
theorem dL_law_88 : decode cL_law 88 = .ok (.bipush 28, 2) := by decide +kernel
theorem dL_law_90 : decode cL_law 90 = .ok (.irem, 1) := by decide +kernel
theorem dL_law_91 : decode cL_law 91 = .ok (.iadd, 1) := by decide +kernel
theorem dL_law_92 : decode cL_law 92 = .ok (.invokestatic 12, 3) := by decide +kernel
theorem dL_law_95 : decode cL_law 95 = .ok (.iload 5, 2) := by decide +kernel
theorem dL_law_97 : decode cL_law 97 = .ok (.bipush 28, 2) := by decide +kernel
theorem dL_law_99 : decode cL_law 99 = .ok (.idiv, 1) := by decide +kernel
theorem dL_law_100 : decode cL_law 100 = .ok (.bipush 9, 2) := by decide +kernel
theorem dL_law_102 : decode cL_law 102 = .ok (.imul, 1) := by decide +kernel
theorem dL_law_103 : decode cL_law 103 = .ok (.ishr, 1) := by decide +kernel
theorem dL_law_104 : decode cL_law 104 = .ok (.istore 6, 2) := by decide +kernel
theorem dL_law_106 : decode cL_law 106 = .ok (.iload 6, 2) := by decide +kernel
theorem dL_law_108 : decode cL_law 108 = .ok (.iconst 3, 1) := by decide +kernel
theorem dL_law_109 : decode cL_law 109 = .ok (.ishr, 1) := by decide +kernel
theorem dL_law_110 : decode cL_law 110 = .ok (.iload_n 2, 1) := by decide +kernel
theorem dL_law_111 : decode cL_law 111 = .ok (.invokestatic 18, 3) := by decide +kernel
theorem dL_law_114 : decode cL_law 114 = .ok (.istore 7, 2) := by decide +kernel
theorem dL_law_116 : decode cL_law 116 = .ok (.iload 6, 2) := by decide +kernel
theorem dL_law_118 : decode cL_law 118 = .ok (.iconst 5, 1) := by decide +kernel
theorem dL_law_119 : decode cL_law 119 = .ok (.ishr, 1) := by decide +kernel
theorem dL_law_120 : decode cL_law 120 = .ok (.iload 6, 2) := by decide +kernel
theorem dL_law_122 : decode cL_law 122 = .ok (.iconst 4, 1) := by decide +kernel
theorem dL_law_123 : decode cL_law 123 = .ok (.invokestatic 18, 3) := by decide +kernel
theorem dL_law_126 : decode cL_law 126 = .ok (.ifCond .ne 8, 3) := by decide +kernel
theorem dL_law_129 : decode cL_law 129 = .ok (.bipush 12, 2) := by decide +kernel
theorem dL_law_131 : decode cL_law 131 = .ok (.goto 4, 3) := by decide +kernel
theorem dL_law_134 : decode cL_law 134 = .ok (.iconst 3, 1) := by decide +kernel
theorem dL_law_135 : decode cL_law 135 = .ok (.invokestatic 18, 3) := by decide +kernel
theorem dL_law_138 : decode cL_law 138 = .ok (.istore 8, 2) := by decide +kernel
theorem dL_law_140 : decode cL_law 140 = .ok (.aload_n 1, 1) := by decide +kernel
theorem dL_law_141 : decode cL_law 141 = .ok (.iload 7, 2) := by decide +kernel
theorem dL_law_143 : decode cL_law 143 = .ok (.iload 8, 2) := by decide +kernel
theorem dL_law_145 : decode cL_law 145 = .ok (.iconst 4, 1) := by decide +kernel
theorem dL_law_146 : decode cL_law 146 = .ok (.invokevirtual 25, 3) := by decide +kernel
theorem dL_law_149 : decode cL_law 149 = .ok (.iconst 1, 1) := by decide +kernel
theorem dL_law_150 : decode cL_law 150 = .ok (.if_icmp .ne 7, 3) := by decide +kernel
theorem dL_law_153 : decode cL_law 153 = .ok (.iconst 1, 1) := by decide +kernel
theorem dL_law_154 : decode cL_law 154 = .ok (.goto 4, 3) := by decide +kernel
theorem dL_law_157 : decode cL_law 157 = .ok (.iconst 0, 1) := by decide +kernel
theorem dL_law_158 : decode cL_law 158 = .ok (.istore 9, 2) := by decide +kernel
theorem dL_law_160 : decode cL_law 160 = .ok (.iload 6, 2) := by decide +kernel
theorem dL_law_162 : decode cL_law 162 = .ok (.bipush 10, 2) := by decide +kernel
theorem dL_law_164 : decode cL_law 164 = .ok (.invokestatic 18, 3) := by decide +kernel
theorem dL_law_167 : decode cL_law 167 = .ok (.tableswitch 335 0 7 #[45, 45, 45, 101, 101, 172, 257, 275], 45) := by decide +kernel
theorem dL_law_212 : decode cL_law 212 = .ok (.aload_n 3, 1) := by decide +kernel
theorem dL_law_213 : decode cL_law 213 = .ok (.iload 7, 2) := by decide +kernel
theorem dL_law_215 : decode cL_law 215 = .ok (.dup2, 1) := by decide +kernel
theorem dL_law_216 : decode cL_law 216 = .ok (.iaload, 1) := by decide +kernel
theorem dL_law_217 : decode cL_law 217 = .ok (.iconst 1, 1) := by decide +kernel
theorem dL_law_218 : decode cL_law 218 = .ok (.iadd, 1) := by decide +kernel
theorem dL_law_219 : decode cL_law 219 = .ok (.iastore, 1) := by decide +kernel
theorem dL_law_220 : decode cL_law 220 = .ok (.aload_n 1, 1) := by decide +kernel
theorem dL_law_221 : decode cL_law 221 = .ok (.iload 7, 2) := by decide +kernel
theorem dL_law_223 : decode cL_law 223 = .ok (.iload 8, 2) := by decide +kernel
theorem dL_law_225 : decode cL_law 225 = .ok (.invokevirtual 29, 3) := by decide +kernel
theorem dL_law_228 : decode cL_law 228 = .ok (.iload 9, 2) := by decide +kernel
theorem dL_law_230 : decode cL_law 230 = .ok (.ifCond .eq 15, 3) := by decide +kernel
theorem dL_law_233 : decode cL_law 233 = .ok (.aload_n 1, 1) := by decide +kernel
theorem dL_law_234 : decode cL_law 234 = .ok (.iload 7, 2) := by decide +kernel
theorem dL_law_236 : decode cL_law 236 = .ok (.iload 8, 2) := by decide +kernel
theorem dL_law_238 : decode cL_law 238 = .ok (.iconst 0, 1) := by decide +kernel
theorem dL_law_239 : decode cL_law 239 = .ok (.invokevirtual 25, 3) := by decide +kernel
theorem dL_law_242 : decode cL_law 242 = .ok (.goto 4, 3) := by decide +kernel
theorem dL_law_245 : decode cL_law 245 = .ok (.iconst (-1), 1) := by decide +kernel
theorem dL_law_246 : decode cL_law 246 = .ok (.if_icmp .ne 20, 3) := by decide +kernel
theorem dL_law_249 : decode cL_law 249 = .ok (.iload 9, 2) := by decide +kernel
theorem dL_law_251 : decode cL_law 251 = .ok (.ifCond .eq 272, 3) := by decide +kernel
theorem dL_law_254 : decode cL_law 254 = .ok (.aload_n 1, 1) := by decide +kernel
theorem dL_law_255 : decode cL_law 255 = .ok (.iload 7, 2) := by decide +kernel
theorem dL_law_257 : decode cL_law 257 = .ok (.iconst 0, 1) := by decide +kernel
theorem dL_law_258 : decode cL_law 258 = .ok (.invokevirtual 32, 3) := by decide +kernel
theorem dL_law_261 : decode cL_law 261 = .ok (.iload 8, 2) := by decide +kernel
theorem dL_law_263 : decode cL_law 263 = .ok (.if_icmp .eq 260, 3) := by decide +kernel
theorem dL_law_266 : decode cL_law 266 = .ok (.iconst 0, 1) := by decide +kernel
theorem dL_law_267 : decode cL_law 267 = .ok (.ireturn, 1) := by decide +kernel
theorem dL_law_268 : decode cL_law 268 = .ok (.aload_n 3, 1) := by decide +kernel
theorem dL_law_269 : decode cL_law 269 = .ok (.iload 7, 2) := by decide +kernel
theorem dL_law_271 : decode cL_law 271 = .ok (.dup2, 1) := by decide +kernel
theorem dL_law_272 : decode cL_law 272 = .ok (.iaload, 1) := by decide +kernel
theorem dL_law_273 : decode cL_law 273 = .ok (.iconst 1, 1) := by decide +kernel
theorem dL_law_274 : decode cL_law 274 = .ok (.iadd, 1) := by decide +kernel
theorem dL_law_275 : decode cL_law 275 = .ok (.iastore, 1) := by decide +kernel
theorem dL_law_276 : decode cL_law 276 = .ok (.aload_n 1, 1) := by decide +kernel
theorem dL_law_277 : decode cL_law 277 = .ok (.iload 7, 2) := by decide +kernel
theorem dL_law_279 : decode cL_law 279 = .ok (.iload 8, 2) := by decide +kernel
theorem dL_law_281 : decode cL_law 281 = .ok (.iload 6, 2) := by decide +kernel
theorem dL_law_283 : decode cL_law 283 = .ok (.iconst 4, 1) := by decide +kernel
theorem dL_law_284 : decode cL_law 284 = .ok (.ishr, 1) := by decide +kernel
theorem dL_law_285 : decode cL_law 285 = .ok (.bipush 100, 2) := by decide +kernel
theorem dL_law_287 : decode cL_law 287 = .ok (.invokestatic 18, 3) := by decide +kernel
theorem dL_law_290 : decode cL_law 290 = .ok (.invokevirtual 35, 3) := by decide +kernel
theorem dL_law_293 : decode cL_law 293 = .ok (.iload 9, 2) := by decide +kernel
theorem dL_law_295 : decode cL_law 295 = .ok (.if_icmp .ne 42, 3) := by decide +kernel
theorem dL_law_298 : decode cL_law 298 = .ok (.iload 9, 2) := by decide +kernel
theorem dL_law_300 : decode cL_law 300 = .ok (.ifCond .eq 223, 3) := by decide +kernel
theorem dL_law_303 : decode cL_law 303 = .ok (.aload_n 1, 1) := by decide +kernel
theorem dL_law_304 : decode cL_law 304 = .ok (.iload 7, 2) := by decide +kernel
theorem dL_law_306 : decode cL_law 306 = .ok (.iload 8, 2) := by decide +kernel
theorem dL_law_308 : decode cL_law 308 = .ok (.iconst 0, 1) := by decide +kernel
theorem dL_law_309 : decode cL_law 309 = .ok (.invokevirtual 25, 3) := by decide +kernel
theorem dL_law_312 : decode cL_law 312 = .ok (.iload 6, 2) := by decide +kernel
theorem dL_law_314 : decode cL_law 314 = .ok (.iconst 4, 1) := by decide +kernel
theorem dL_law_315 : decode cL_law 315 = .ok (.ishr, 1) := by decide +kernel
theorem dL_law_316 : decode cL_law 316 = .ok (.bipush 100, 2) := by decide +kernel
theorem dL_law_318 : decode cL_law 318 = .ok (.invokestatic 18, 3) := by decide +kernel
theorem dL_law_321 : decode cL_law 321 = .ok (.if_icmp .ne 16, 3) := by decide +kernel
theorem dL_law_324 : decode cL_law 324 = .ok (.aload_n 1, 1) := by decide +kernel
theorem dL_law_325 : decode cL_law 325 = .ok (.iload 7, 2) := by decide +kernel
theorem dL_law_327 : decode cL_law 327 = .ok (.iload 8, 2) := by decide +kernel
theorem dL_law_329 : decode cL_law 329 = .ok (.iconst 2, 1) := by decide +kernel
theorem dL_law_330 : decode cL_law 330 = .ok (.invokevirtual 25, 3) := by decide +kernel
theorem dL_law_333 : decode cL_law 333 = .ok (.iconst 1, 1) := by decide +kernel
theorem dL_law_334 : decode cL_law 334 = .ok (.if_icmp .eq 189, 3) := by decide +kernel
theorem dL_law_337 : decode cL_law 337 = .ok (.iconst 0, 1) := by decide +kernel
theorem dL_law_338 : decode cL_law 338 = .ok (.ireturn, 1) := by decide +kernel
theorem dL_law_339 : decode cL_law 339 = .ok (.iload 4, 2) := by decide +kernel
theorem dL_law_341 : decode cL_law 341 = .ok (.iload 6, 2) := by decide +kernel
theorem dL_law_343 : decode cL_law 343 = .ok (.bipush 7, 2) := by decide +kernel
theorem dL_law_345 : decode cL_law 345 = .ok (.ishr, 1) := by decide +kernel
theorem dL_law_346 : decode cL_law 346 = .ok (.iconst 3, 1) := by decide +kernel
theorem dL_law_347 : decode cL_law 347 = .ok (.invokestatic 18, 3) := by decide +kernel
theorem dL_law_350 : decode cL_law 350 = .ok (.ifCond .ne 7, 3) := by decide +kernel
theorem dL_law_353 : decode cL_law 353 = .ok (.iconst 1, 1) := by decide +kernel
theorem dL_law_354 : decode cL_law 354 = .ok (.goto 4, 3) := by decide +kernel
theorem dL_law_357 : decode cL_law 357 = .ok (.iconst 0, 1) := by decide +kernel
theorem dL_law_358 : decode cL_law 358 = .ok (.ior, 1) := by decide +kernel
theorem dL_law_359 : decode cL_law 359 = .ok (.istore 4, 2) := by decide +kernel
theorem dL_law_361 : decode cL_law 361 = .ok (.aload_n 1, 1) := by decide +kernel
theorem dL_law_362 : decode cL_law 362 = .ok (.iload 7, 2) := by decide +kernel
theorem dL_law_364 : decode cL_law 364 = .ok (.iload 6, 2) := by decide +kernel
theorem dL_law_366 : decode cL_law 366 = .ok (.bipush 7, 2) := by decide +kernel
theorem dL_law_368 : decode cL_law 368 = .ok (.ishr, 1) := by decide +kernel
theorem dL_law_369 : decode cL_law 369 = .ok (.iconst 3, 1) := by decide +kernel
theorem dL_law_370 : decode cL_law 370 = .ok (.invokestatic 18, 3) := by decide +kernel
theorem dL_law_373 : decode cL_law 373 = .ok (.ifCond .ne 7, 3) := by decide +kernel
theorem dL_law_376 : decode cL_law 376 = .ok (.iconst 1, 1) := by decide +kernel
theorem dL_law_377 : decode cL_law 377 = .ok (.goto 4, 3) := by decide +kernel
theorem dL_law_380 : decode cL_law 380 = .ok (.iconst 0, 1) := by decide +kernel
theorem dL_law_381 : decode cL_law 381 = .ok (.invokevirtual 39, 3) := by decide +kernel
theorem dL_law_384 : decode cL_law 384 = .ok (.aload_n 1, 1) := by decide +kernel
theorem dL_law_385 : decode cL_law 385 = .ok (.iload 7, 2) := by decide +kernel
theorem dL_law_387 : decode cL_law 387 = .ok (.iconst 0, 1) := by decide +kernel
theorem dL_law_388 : decode cL_law 388 = .ok (.invokevirtual 43, 3) := by decide +kernel
theorem dL_law_391 : decode cL_law 391 = .ok (.if_icmp .gt 31, 3) := by decide +kernel
theorem dL_law_394 : decode cL_law 394 = .ok (.aload_n 1, 1) := by decide +kernel
theorem dL_law_395 : decode cL_law 395 = .ok (.iload 7, 2) := by decide +kernel
theorem dL_law_397 : decode cL_law 397 = .ok (.bipush 6, 2) := by decide +kernel
theorem dL_law_399 : decode cL_law 399 = .ok (.invokevirtual 43, 3) := by decide +kernel
theorem dL_law_402 : decode cL_law 402 = .ok (.iload 6, 2) := by decide +kernel
theorem dL_law_404 : decode cL_law 404 = .ok (.bipush 7, 2) := by decide +kernel
theorem dL_law_406 : decode cL_law 406 = .ok (.ishr, 1) := by decide +kernel
theorem dL_law_407 : decode cL_law 407 = .ok (.iconst 3, 1) := by decide +kernel
theorem dL_law_408 : decode cL_law 408 = .ok (.invokestatic 18, 3) := by decide +kernel
theorem dL_law_411 : decode cL_law 411 = .ok (.ifCond .ne 7, 3) := by decide +kernel
theorem dL_law_414 : decode cL_law 414 = .ok (.iconst 1, 1) := by decide +kernel
theorem dL_law_415 : decode cL_law 415 = .ok (.goto 4, 3) := by decide +kernel
theorem dL_law_418 : decode cL_law 418 = .ok (.iconst 0, 1) := by decide +kernel
theorem dL_law_419 : decode cL_law 419 = .ok (.if_icmp .eq 104, 3) := by decide +kernel
theorem dL_law_422 : decode cL_law 422 = .ok (.iconst 0, 1) := by decide +kernel
theorem dL_law_423 : decode cL_law 423 = .ok (.ireturn, 1) := by decide +kernel
theorem dL_law_424 : decode cL_law 424 = .ok (.aload_n 1, 1) := by decide +kernel
theorem dL_law_425 : decode cL_law 425 = .ok (.iload 7, 2) := by decide +kernel
theorem dL_law_427 : decode cL_law 427 = .ok (.invokevirtual 46, 3) := by decide +kernel
theorem dL_law_430 : decode cL_law 430 = .ok (.aload_n 1, 1) := by decide +kernel
theorem dL_law_431 : decode cL_law 431 = .ok (.iload 7, 2) := by decide +kernel
theorem dL_law_433 : decode cL_law 433 = .ok (.iconst 0, 1) := by decide +kernel
theorem dL_law_434 : decode cL_law 434 = .ok (.invokevirtual 43, 3) := by decide +kernel
theorem dL_law_437 : decode cL_law 437 = .ok (.if_icmp .le 86, 3) := by decide +kernel
theorem dL_law_440 : decode cL_law 440 = .ok (.iconst 0, 1) := by decide +kernel
theorem dL_law_441 : decode cL_law 441 = .ok (.ireturn, 1) := by decide +kernel
theorem dL_law_442 : decode cL_law 442 = .ok (.iload 6, 2) := by decide +kernel
theorem dL_law_444 : decode cL_law 444 = .ok (.bipush 6, 2) := by decide +kernel
theorem dL_law_446 : decode cL_law 446 = .ok (.ishr, 1) := by decide +kernel
theorem dL_law_447 : decode cL_law 447 = .ok (.iconst 2, 1) := by decide +kernel
theorem dL_law_448 : decode cL_law 448 = .ok (.invokestatic 18, 3) := by decide +kernel
theorem dL_law_451 : decode cL_law 451 = .ok (.ifCond .ne 32, 3) := by decide +kernel
theorem dL_law_454 : decode cL_law 454 = .ok (.aload_n 1, 1) := by decide +kernel
theorem dL_law_455 : decode cL_law 455 = .ok (.iconst 1, 1) := by decide +kernel
theorem dL_law_456 : decode cL_law 456 = .ok (.iload 6, 2) := by decide +kernel
theorem dL_law_458 : decode cL_law 458 = .ok (.bipush 7, 2) := by decide +kernel
theorem dL_law_460 : decode cL_law 460 = .ok (.ishr, 1) := by decide +kernel
theorem dL_law_461 : decode cL_law 461 = .ok (.bipush 40, 2) := by decide +kernel
theorem dL_law_463 : decode cL_law 463 = .ok (.invokestatic 18, 3) := by decide +kernel
theorem dL_law_466 : decode cL_law 466 = .ok (.iadd, 1) := by decide +kernel
theorem dL_law_467 : decode cL_law 467 = .ok (.iload 6, 2) := by decide +kernel
theorem dL_law_469 : decode cL_law 469 = .ok (.iconst 5, 1) := by decide +kernel
theorem dL_law_470 : decode cL_law 470 = .ok (.ishr, 1) := by decide +kernel
theorem dL_law_471 : decode cL_law 471 = .ok (.bipush 10, 2) := by decide +kernel
theorem dL_law_473 : decode cL_law 473 = .ok (.invokestatic 18, 3) := by decide +kernel
theorem dL_law_476 : decode cL_law 476 = .ok (.invokevirtual 50, 3) := by decide +kernel
theorem dL_law_479 : decode cL_law 479 = .ok (.pop, 1) := by decide +kernel
theorem dL_law_480 : decode cL_law 480 = .ok (.goto 43, 3) := by decide +kernel
theorem dL_law_483 : decode cL_law 483 = .ok (.aload_n 1, 1) := by decide +kernel
theorem dL_law_484 : decode cL_law 484 = .ok (.iconst 2, 1) := by decide +kernel
theorem dL_law_485 : decode cL_law 485 = .ok (.iload 6, 2) := by decide +kernel
theorem dL_law_487 : decode cL_law 487 = .ok (.bipush 7, 2) := by decide +kernel
theorem dL_law_489 : decode cL_law 489 = .ok (.ishr, 1) := by decide +kernel
theorem dL_law_490 : decode cL_law 490 = .ok (.iconst 5, 1) := by decide +kernel
theorem dL_law_491 : decode cL_law 491 = .ok (.invokestatic 18, 3) := by decide +kernel
theorem dL_law_494 : decode cL_law 494 = .ok (.iadd, 1) := by decide +kernel
theorem dL_law_495 : decode cL_law 495 = .ok (.invokevirtual 53, 3) := by decide +kernel
theorem dL_law_498 : decode cL_law 498 = .ok (.pop, 1) := by decide +kernel
theorem dL_law_499 : decode cL_law 499 = .ok (.goto 24, 3) := by decide +kernel
theorem dL_law_502 : decode cL_law 502 = .ok (.aload_n 1, 1) := by decide +kernel
theorem dL_law_503 : decode cL_law 503 = .ok (.iconst 1, 1) := by decide +kernel
theorem dL_law_504 : decode cL_law 504 = .ok (.iload 6, 2) := by decide +kernel
theorem dL_law_506 : decode cL_law 506 = .ok (.bipush 6, 2) := by decide +kernel
theorem dL_law_508 : decode cL_law 508 = .ok (.ishr, 1) := by decide +kernel
theorem dL_law_509 : decode cL_law 509 = .ok (.bipush 6, 2) := by decide +kernel
theorem dL_law_511 : decode cL_law 511 = .ok (.invokestatic 18, 3) := by decide +kernel
theorem dL_law_514 : decode cL_law 514 = .ok (.iadd, 1) := by decide +kernel
theorem dL_law_515 : decode cL_law 515 = .ok (.invokestatic 56, 3) := by decide +kernel
theorem dL_law_518 : decode cL_law 518 = .ok (.ifCond .ne 5, 3) := by decide +kernel
theorem dL_law_521 : decode cL_law 521 = .ok (.iconst 0, 1) := by decide +kernel
theorem dL_law_522 : decode cL_law 522 = .ok (.ireturn, 1) := by decide +kernel
theorem dL_law_523 : decode cL_law 523 = .ok (.aload_n 1, 1) := by decide +kernel
theorem dL_law_524 : decode cL_law 524 = .ok (.aload_n 3, 1) := by decide +kernel
theorem dL_law_525 : decode cL_law 525 = .ok (.iload 4, 2) := by decide +kernel
theorem dL_law_527 : decode cL_law 527 = .ok (.invokestatic 60, 3) := by decide +kernel
theorem dL_law_530 : decode cL_law 530 = .ok (.ifCond .ne 5, 3) := by decide +kernel
theorem dL_law_533 : decode cL_law 533 = .ok (.iconst 0, 1) := by decide +kernel
theorem dL_law_534 : decode cL_law 534 = .ok (.ireturn, 1) := by decide +kernel
theorem dL_law_535 : decode cL_law 535 = .ok (.iload 5, 2) := by decide +kernel
theorem dL_law_537 : decode cL_law 537 = .ok (.bipush 12, 2) := by decide +kernel
theorem dL_law_539 : decode cL_law 539 = .ok (.irem, 1) := by decide +kernel
theorem dL_law_540 : decode cL_law 540 = .ok (.bipush 11, 2) := by decide +kernel
theorem dL_law_542 : decode cL_law 542 = .ok (.if_icmp .eq 6, 3) := by decide +kernel
theorem dL_law_545 : decode cL_law 545 = .ok (.goto 71, 3) := by decide +kernel
theorem dL_law_548 : decode cL_law 548 = .ok (.aload_n 1, 1) := by decide +kernel
theorem dL_law_549 : decode cL_law 549 = .ok (.invokevirtual 64, 3) := by decide +kernel
theorem dL_law_552 : decode cL_law 552 = .ok (.lstore 10, 2) := by decide +kernel
theorem dL_law_554 : decode cL_law 554 = .ok (.aload_n 1, 1) := by decide +kernel
theorem dL_law_555 : decode cL_law 555 = .ok (.bipush 40, 2) := by decide +kernel
theorem dL_law_557 : decode cL_law 557 = .ok (.invokevirtual 68, 3) := by decide +kernel
theorem dL_law_560 : decode cL_law 560 = .ok (.istore 12, 2) := by decide +kernel
theorem dL_law_562 : decode cL_law 562 = .ok (.aload_n 1, 1) := by decide +kernel
theorem dL_law_563 : decode cL_law 563 = .ok (.iload 8, 2) := by decide +kernel
theorem dL_law_565 : decode cL_law 565 = .ok (.bipush 10, 2) := by decide +kernel
theorem dL_law_567 : decode cL_law 567 = .ok (.invokevirtual 71, 3) := by decide +kernel
theorem dL_law_570 : decode cL_law 570 = .ok (.ifCond .lt 44, 3) := by decide +kernel
theorem dL_law_573 : decode cL_law 573 = .ok (.aload_n 1, 1) := by decide +kernel
theorem dL_law_574 : decode cL_law 574 = .ok (.iload 7, 2) := by decide +kernel
theorem dL_law_576 : decode cL_law 576 = .ok (.bipush 20, 2) := by decide +kernel
theorem dL_law_578 : decode cL_law 578 = .ok (.invokevirtual 74, 3) := by decide +kernel
theorem dL_law_581 : decode cL_law 581 = .ok (.ifCond .lt 33, 3) := by decide +kernel
theorem dL_law_584 : decode cL_law 584 = .ok (.iload 12, 2) := by decide +kernel
theorem dL_law_586 : decode cL_law 586 = .ok (.iconst (-1), 1) := by decide +kernel
theorem dL_law_587 : decode cL_law 587 = .ok (.if_icmp .lt 27, 3) := by decide +kernel
theorem dL_law_590 : decode cL_law 590 = .ok (.iload 12, 2) := by decide +kernel
theorem dL_law_592 : decode cL_law 592 = .ok (.bipush 40, 2) := by decide +kernel
theorem dL_law_594 : decode cL_law 594 = .ok (.if_icmp .gt 20, 3) := by decide +kernel
theorem dL_law_597 : decode cL_law 597 = .ok (.aload_n 1, 1) := by decide +kernel
theorem dL_law_598 : decode cL_law 598 = .ok (.invokestatic 77, 3) := by decide +kernel
theorem dL_law_601 : decode cL_law 601 = .ok (.ifCond .eq 13, 3) := by decide +kernel
theorem dL_law_604 : decode cL_law 604 = .ok (.aload_n 1, 1) := by decide +kernel
theorem dL_law_605 : decode cL_law 605 = .ok (.invokevirtual 64, 3) := by decide +kernel
theorem dL_law_608 : decode cL_law 608 = .ok (.lload 10, 2) := by decide +kernel
theorem dL_law_610 : decode cL_law 610 = .ok (.lcmp, 1) := by decide +kernel
theorem dL_law_611 : decode cL_law 611 = .ok (.ifCond .eq 5, 3) := by decide +kernel
theorem dL_law_614 : decode cL_law 614 = .ok (.iconst 0, 1) := by decide +kernel
theorem dL_law_615 : decode cL_law 615 = .ok (.ireturn, 1) := by decide +kernel
theorem dL_law_616 : decode cL_law 616 = .ok (.iinc 5 1, 3) := by decide +kernel
theorem dL_law_619 : decode cL_law 619 = .ok (.goto (-542), 3) := by decide +kernel
theorem dL_law_622 : decode cL_law 622 = .ok (.iconst 1, 1) := by decide +kernel
theorem dL_law_623 : decode cL_law 623 = .ok (.ireturn, 1) := by decide +kernel
theorem dL_isTicked_0 : decode cL_isTicked 0 = .ok (.iconst 0, 1) := by decide +kernel
theorem dL_isTicked_1 : decode cL_isTicked 1 = .ok (.istore_n 2, 1) := by decide +kernel
theorem dL_isTicked_2 : decode cL_isTicked 2 = .ok (.iload_n 2, 1) := by decide +kernel
theorem dL_isTicked_3 : decode cL_isTicked 3 = .ok (.iload_n 1, 1) := by decide +kernel
theorem dL_isTicked_4 : decode cL_isTicked 4 = .ok (.if_icmp .ge 153, 3) := by decide +kernel
theorem dL_isTicked_7 : decode cL_isTicked 7 = .ok (.aload_n 0, 1) := by decide +kernel
theorem dL_isTicked_8 : decode cL_isTicked 8 = .ok (.invokevirtual 81, 3) := by decide +kernel
theorem dL_isTicked_11 : decode cL_isTicked 11 = .ok (.istore_n 3, 1) := by decide +kernel
theorem dL_isTicked_12 : decode cL_isTicked 12 = .ok (.bipush 12, 2) := by decide +kernel
theorem dL_isTicked_14 : decode cL_isTicked 14 = .ok (.newarray .int, 2) := by decide +kernel
theorem dL_isTicked_16 : decode cL_isTicked 16 = .ok (.astore 4, 2) := by decide +kernel
theorem dL_isTicked_18 : decode cL_isTicked 18 = .ok (.bipush 12, 2) := by decide +kernel
theorem dL_isTicked_20 : decode cL_isTicked 20 = .ok (.newarray .int, 2) := by decide +kernel
theorem dL_isTicked_22 : decode cL_isTicked 22 = .ok (.astore 5, 2) := by decide +kernel
theorem dL_isTicked_24 : decode cL_isTicked 24 = .ok (.iconst 0, 1) := by decide +kernel
theorem dL_isTicked_25 : decode cL_isTicked 25 = .ok (.istore 6, 2) := by decide +kernel
theorem dL_isTicked_27 : decode cL_isTicked 27 = .ok (.iload 6, 2) := by decide +kernel
theorem dL_isTicked_29 : decode cL_isTicked 29 = .ok (.bipush 12, 2) := by decide +kernel
theorem dL_isTicked_31 : decode cL_isTicked 31 = .ok (.if_icmp .ge 33, 3) := by decide +kernel
theorem dL_isTicked_34 : decode cL_isTicked 34 = .ok (.aload 4, 2) := by decide +kernel
theorem dL_isTicked_36 : decode cL_isTicked 36 = .ok (.iload 6, 2) := by decide +kernel
theorem dL_isTicked_38 : decode cL_isTicked 38 = .ok (.aload_n 0, 1) := by decide +kernel
theorem dL_isTicked_39 : decode cL_isTicked 39 = .ok (.iload 6, 2) := by decide +kernel
theorem dL_isTicked_41 : decode cL_isTicked 41 = .ok (.iconst 1, 1) := by decide +kernel
theorem dL_isTicked_42 : decode cL_isTicked 42 = .ok (.invokevirtual 85, 3) := by decide +kernel
theorem dL_isTicked_45 : decode cL_isTicked 45 = .ok (.iastore, 1) := by decide +kernel
theorem dL_isTicked_46 : decode cL_isTicked 46 = .ok (.aload 5, 2) := by decide +kernel
theorem dL_isTicked_48 : decode cL_isTicked 48 = .ok (.iload 6, 2) := by decide +kernel
theorem dL_isTicked_50 : decode cL_isTicked 50 = .ok (.aload_n 0, 1) := by decide +kernel
theorem dL_isTicked_51 : decode cL_isTicked 51 = .ok (.iload 6, 2) := by decide +kernel
theorem dL_isTicked_53 : decode cL_isTicked 53 = .ok (.iconst 0, 1) := by decide +kernel
theorem dL_isTicked_54 : decode cL_isTicked 54 = .ok (.invokevirtual 85, 3) := by decide +kernel
theorem dL_isTicked_57 : decode cL_isTicked 57 = .ok (.iastore, 1) := by decide +kernel
theorem dL_isTicked_58 : decode cL_isTicked 58 = .ok (.iinc 6 1, 3) := by decide +kernel
theorem dL_isTicked_61 : decode cL_isTicked 61 = .ok (.goto (-34), 3) := by decide +kernel
theorem dL_isTicked_64 : decode cL_isTicked 64 = .ok (.aload_n 0, 1) := by decide +kernel
theorem dL_isTicked_65 : decode cL_isTicked 65 = .ok (.iconst 1, 1) := by decide +kernel
theorem dL_isTicked_66 : decode cL_isTicked 66 = .ok (.invokevirtual 88, 3) := by decide +kernel
theorem dL_isTicked_69 : decode cL_isTicked 69 = .ok (.aload_n 0, 1) := by decide +kernel
theorem dL_isTicked_70 : decode cL_isTicked 70 = .ok (.invokevirtual 91, 3) := by decide +kernel
theorem dL_isTicked_73 : decode cL_isTicked 73 = .ok (.if_icmp .ne 13, 3) := by decide +kernel
theorem dL_isTicked_76 : decode cL_isTicked 76 = .ok (.aload_n 0, 1) := by decide +kernel
theorem dL_isTicked_77 : decode cL_isTicked 77 = .ok (.invokevirtual 81, 3) := by decide +kernel
theorem dL_isTicked_80 : decode cL_isTicked 80 = .ok (.iload_n 3, 1) := by decide +kernel
theorem dL_isTicked_81 : decode cL_isTicked 81 = .ok (.iconst 1, 1) := by decide +kernel
theorem dL_isTicked_82 : decode cL_isTicked 82 = .ok (.iadd, 1) := by decide +kernel
theorem dL_isTicked_83 : decode cL_isTicked 83 = .ok (.if_icmp .eq 5, 3) := by decide +kernel
theorem dL_isTicked_86 : decode cL_isTicked 86 = .ok (.iconst 0, 1) := by decide +kernel
theorem dL_isTicked_87 : decode cL_isTicked 87 = .ok (.ireturn, 1) := by decide +kernel
theorem dL_isTicked_88 : decode cL_isTicked 88 = .ok (.iconst 0, 1) := by decide +kernel
theorem dL_isTicked_89 : decode cL_isTicked 89 = .ok (.istore 6, 2) := by decide +kernel
theorem dL_isTicked_91 : decode cL_isTicked 91 = .ok (.iload 6, 2) := by decide +kernel
theorem dL_isTicked_93 : decode cL_isTicked 93 = .ok (.bipush 12, 2) := by decide +kernel
theorem dL_isTicked_95 : decode cL_isTicked 95 = .ok (.if_icmp .ge 56, 3) := by decide +kernel
theorem dL_isTicked_98 : decode cL_isTicked 98 = .ok (.aload_n 0, 1) := by decide +kernel
theorem dL_isTicked_99 : decode cL_isTicked 99 = .ok (.iload 6, 2) := by decide +kernel
theorem dL_isTicked_101 : decode cL_isTicked 101 = .ok (.iconst 1, 1) := by decide +kernel
theorem dL_isTicked_102 : decode cL_isTicked 102 = .ok (.invokevirtual 85, 3) := by decide +kernel
theorem dL_isTicked_105 : decode cL_isTicked 105 = .ok (.aload 4, 2) := by decide +kernel
theorem dL_isTicked_107 : decode cL_isTicked 107 = .ok (.iload 6, 2) := by decide +kernel
theorem dL_isTicked_109 : decode cL_isTicked 109 = .ok (.iaload, 1) := by decide +kernel
theorem dL_isTicked_110 : decode cL_isTicked 110 = .ok (.if_icmp .lt 33, 3) := by decide +kernel
theorem dL_isTicked_113 : decode cL_isTicked 113 = .ok (.aload_n 0, 1) := by decide +kernel
theorem dL_isTicked_114 : decode cL_isTicked 114 = .ok (.iload 6, 2) := by decide +kernel
theorem dL_isTicked_116 : decode cL_isTicked 116 = .ok (.iconst 1, 1) := by decide +kernel
theorem dL_isTicked_117 : decode cL_isTicked 117 = .ok (.invokevirtual 85, 3) := by decide +kernel
theorem dL_isTicked_120 : decode cL_isTicked 120 = .ok (.aload 4, 2) := by decide +kernel
theorem dL_isTicked_122 : decode cL_isTicked 122 = .ok (.iload 6, 2) := by decide +kernel
theorem dL_isTicked_124 : decode cL_isTicked 124 = .ok (.iaload, 1) := by decide +kernel
theorem dL_isTicked_125 : decode cL_isTicked 125 = .ok (.if_icmp .ne 20, 3) := by decide +kernel
theorem dL_isTicked_128 : decode cL_isTicked 128 = .ok (.aload_n 0, 1) := by decide +kernel
theorem dL_isTicked_129 : decode cL_isTicked 129 = .ok (.iload 6, 2) := by decide +kernel
theorem dL_isTicked_131 : decode cL_isTicked 131 = .ok (.iconst 0, 1) := by decide +kernel
theorem dL_isTicked_132 : decode cL_isTicked 132 = .ok (.invokevirtual 85, 3) := by decide +kernel
theorem dL_isTicked_135 : decode cL_isTicked 135 = .ok (.aload 5, 2) := by decide +kernel
theorem dL_isTicked_137 : decode cL_isTicked 137 = .ok (.iload 6, 2) := by decide +kernel
theorem dL_isTicked_139 : decode cL_isTicked 139 = .ok (.iaload, 1) := by decide +kernel
theorem dL_isTicked_140 : decode cL_isTicked 140 = .ok (.if_icmp .eq 5, 3) := by decide +kernel
theorem dL_isTicked_143 : decode cL_isTicked 143 = .ok (.iconst 0, 1) := by decide +kernel
theorem dL_isTicked_144 : decode cL_isTicked 144 = .ok (.ireturn, 1) := by decide +kernel
theorem dL_isTicked_145 : decode cL_isTicked 145 = .ok (.iinc 6 1, 3) := by decide +kernel
theorem dL_isTicked_148 : decode cL_isTicked 148 = .ok (.goto (-57), 3) := by decide +kernel
theorem dL_isTicked_151 : decode cL_isTicked 151 = .ok (.iinc 2 1, 3) := by decide +kernel
theorem dL_isTicked_154 : decode cL_isTicked 154 = .ok (.goto (-152), 3) := by decide +kernel
theorem dL_isTicked_157 : decode cL_isTicked 157 = .ok (.iconst 1, 1) := by decide +kernel
theorem dL_isTicked_158 : decode cL_isTicked 158 = .ok (.ireturn, 1) := by decide +kernel
theorem dL_areClientsRight_0 : decode cL_areClientsRight 0 = .ok (.iconst 0, 1) := by decide +kernel
theorem dL_areClientsRight_1 : decode cL_areClientsRight 1 = .ok (.istore_n 3, 1) := by decide +kernel
theorem dL_areClientsRight_2 : decode cL_areClientsRight 2 = .ok (.iload_n 3, 1) := by decide +kernel
theorem dL_areClientsRight_3 : decode cL_areClientsRight 3 = .ok (.aload_n 0, 1) := by decide +kernel
theorem dL_areClientsRight_4 : decode cL_areClientsRight 4 = .ok (.invokevirtual 94, 3) := by decide +kernel
theorem dL_areClientsRight_7 : decode cL_areClientsRight 7 = .ok (.if_icmp .ge 321, 3) := by decide +kernel
theorem dL_areClientsRight_10 : decode cL_areClientsRight 10 = .ok (.aload_n 0, 1) := by decide +kernel
theorem dL_areClientsRight_11 : decode cL_areClientsRight 11 = .ok (.iload_n 3, 1) := by decide +kernel
theorem dL_areClientsRight_12 : decode cL_areClientsRight 12 = .ok (.iconst 1, 1) := by decide +kernel
theorem dL_areClientsRight_13 : decode cL_areClientsRight 13 = .ok (.invokevirtual 43, 3) := by decide +kernel
theorem dL_areClientsRight_16 : decode cL_areClientsRight 16 = .ok (.aload_n 0, 1) := by decide +kernel
theorem dL_areClientsRight_17 : decode cL_areClientsRight 17 = .ok (.iload_n 3, 1) := by decide +kernel
theorem dL_areClientsRight_18 : decode cL_areClientsRight 18 = .ok (.iconst 2, 1) := by decide +kernel
theorem dL_areClientsRight_19 : decode cL_areClientsRight 19 = .ok (.invokevirtual 43, 3) := by decide +kernel
theorem dL_areClientsRight_22 : decode cL_areClientsRight 22 = .ok (.iadd, 1) := by decide +kernel
theorem dL_areClientsRight_23 : decode cL_areClientsRight 23 = .ok (.aload_n 1, 1) := by decide +kernel
theorem dL_areClientsRight_24 : decode cL_areClientsRight 24 = .ok (.iload_n 3, 1) := by decide +kernel
theorem dL_areClientsRight_25 : decode cL_areClientsRight 25 = .ok (.iaload, 1) := by decide +kernel
theorem dL_areClientsRight_26 : decode cL_areClientsRight 26 = .ok (.if_icmp .ne 47, 3) := by decide +kernel
theorem dL_areClientsRight_29 : decode cL_areClientsRight 29 = .ok (.aload_n 0, 1) := by decide +kernel
theorem dL_areClientsRight_30 : decode cL_areClientsRight 30 = .ok (.iload_n 3, 1) := by decide +kernel
theorem dL_areClientsRight_31 : decode cL_areClientsRight 31 = .ok (.iconst 0, 1) := by decide +kernel
theorem dL_areClientsRight_32 : decode cL_areClientsRight 32 = .ok (.invokevirtual 43, 3) := by decide +kernel
theorem dL_areClientsRight_35 : decode cL_areClientsRight 35 = .ok (.bipush 6, 2) := by decide +kernel
theorem dL_areClientsRight_37 : decode cL_areClientsRight 37 = .ok (.if_icmp .gt 36, 3) := by decide +kernel
theorem dL_areClientsRight_40 : decode cL_areClientsRight 40 = .ok (.aload_n 0, 1) := by decide +kernel
theorem dL_areClientsRight_41 : decode cL_areClientsRight 41 = .ok (.iload_n 3, 1) := by decide +kernel
theorem dL_areClientsRight_42 : decode cL_areClientsRight 42 = .ok (.invokevirtual 97, 3) := by decide +kernel
theorem dL_areClientsRight_45 : decode cL_areClientsRight 45 = .ok (.dconst 0, 1) := by decide +kernel
theorem dL_areClientsRight_46 : decode cL_areClientsRight 46 = .ok (.dcmp .g, 1) := by decide +kernel
theorem dL_areClientsRight_47 : decode cL_areClientsRight 47 = .ok (.ifCond .lt 26, 3) := by decide +kernel
theorem dL_areClientsRight_50 : decode cL_areClientsRight 50 = .ok (.aload_n 0, 1) := by decide +kernel
theorem dL_areClientsRight_51 : decode cL_areClientsRight 51 = .ok (.iload_n 3, 1) := by decide +kernel
theorem dL_areClientsRight_52 : decode cL_areClientsRight 52 = .ok (.invokevirtual 97, 3) := by decide +kernel
theorem dL_areClientsRight_55 : decode cL_areClientsRight 55 = .ok (.dconst 1, 1) := by decide +kernel
theorem dL_areClientsRight_56 : decode cL_areClientsRight 56 = .ok (.dcmp .l, 1) := by decide +kernel
theorem dL_areClientsRight_57 : decode cL_areClientsRight 57 = .ok (.ifCond .gt 16, 3) := by decide +kernel
theorem dL_areClientsRight_60 : decode cL_areClientsRight 60 = .ok (.iload_n 2, 1) := by decide +kernel
theorem dL_areClientsRight_61 : decode cL_areClientsRight 61 = .ok (.ifCond .ne 14, 3) := by decide +kernel
theorem dL_areClientsRight_64 : decode cL_areClientsRight 64 = .ok (.aload_n 0, 1) := by decide +kernel
theorem dL_areClientsRight_65 : decode cL_areClientsRight 65 = .ok (.iload_n 3, 1) := by decide +kernel
theorem dL_areClientsRight_66 : decode cL_areClientsRight 66 = .ok (.iconst 5, 1) := by decide +kernel
theorem dL_areClientsRight_67 : decode cL_areClientsRight 67 = .ok (.invokevirtual 43, 3) := by decide +kernel
theorem dL_areClientsRight_70 : decode cL_areClientsRight 70 = .ok (.ifCond .eq 5, 3) := by decide +kernel
theorem dL_areClientsRight_73 : decode cL_areClientsRight 73 = .ok (.iconst 0, 1) := by decide +kernel
theorem dL_areClientsRight_74 : decode cL_areClientsRight 74 = .ok (.ireturn, 1) := by decide +kernel
theorem dL_areClientsRight_75 : decode cL_areClientsRight 75 = .ok (.iconst 0, 1) := by decide +kernel
theorem dL_areClientsRight_76 : decode cL_areClientsRight 76 = .ok (.istore 4, 2) := by decide +kernel
theorem dL_areClientsRight_78 : decode cL_areClientsRight 78 = .ok (.iconst 0, 1) := by decide +kernel
theorem dL_areClientsRight_79 : decode cL_areClientsRight 79 = .ok (.istore 5, 2) := by decide +kernel
theorem dL_areClientsRight_81 : decode cL_areClientsRight 81 = .ok (.iload 5, 2) := by decide +kernel
theorem dL_areClientsRight_83 : decode cL_areClientsRight 83 = .ok (.bipush 12, 2) := by decide +kernel
theorem dL_areClientsRight_85 : decode cL_areClientsRight 85 = .ok (.if_icmp .ge 214, 3) := by decide +kernel
theorem dL_areClientsRight_88 : decode cL_areClientsRight 88 = .ok (.aload_n 0, 1) := by decide +kernel
theorem dL_areClientsRight_89 : decode cL_areClientsRight 89 = .ok (.iload_n 3, 1) := by decide +kernel
theorem dL_areClientsRight_90 : decode cL_areClientsRight 90 = .ok (.iload 5, 2) := by decide +kernel
theorem dL_areClientsRight_92 : decode cL_areClientsRight 92 = .ok (.iconst 0, 1) := by decide +kernel
theorem dL_areClientsRight_93 : decode cL_areClientsRight 93 = .ok (.invokevirtual 25, 3) := by decide +kernel
theorem dL_areClientsRight_96 : decode cL_areClientsRight 96 = .ok (.ifCond .lt 7, 3) := by decide +kernel
theorem dL_areClientsRight_99 : decode cL_areClientsRight 99 = .ok (.iconst 1, 1) := by decide +kernel
theorem dL_areClientsRight_100 : decode cL_areClientsRight 100 = .ok (.goto 4, 3) := by decide +kernel
theorem dL_areClientsRight_103 : decode cL_areClientsRight 103 = .ok (.iconst 0, 1) := by decide +kernel
theorem dL_areClientsRight_104 : decode cL_areClientsRight 104 = .ok (.istore 6, 2) := by decide +kernel
theorem dL_areClientsRight_106 : decode cL_areClientsRight 106 = .ok (.iload 4, 2) := by decide +kernel
theorem dL_areClientsRight_108 : decode cL_areClientsRight 108 = .ok (.iload 6, 2) := by decide +kernel
theorem dL_areClientsRight_110 : decode cL_areClientsRight 110 = .ok (.ifCond .eq 7, 3) := by decide +kernel
theorem dL_areClientsRight_113 : decode cL_areClientsRight 113 = .ok (.iconst 1, 1) := by decide +kernel
theorem dL_areClientsRight_114 : decode cL_areClientsRight 114 = .ok (.goto 4, 3) := by decide +kernel
theorem dL_areClientsRight_117 : decode cL_areClientsRight 117 = .ok (.iconst 0, 1) := by decide +kernel
theorem dL_areClientsRight_118 : decode cL_areClientsRight 118 = .ok (.iadd, 1) := by decide +kernel
theorem dL_areClientsRight_119 : decode cL_areClientsRight 119 = .ok (.istore 4, 2) := by decide +kernel
theorem dL_areClientsRight_121 : decode cL_areClientsRight 121 = .ok (.iload 6, 2) := by decide +kernel
theorem dL_areClientsRight_123 : decode cL_areClientsRight 123 = .ok (.aload_n 0, 1) := by decide +kernel
theorem dL_areClientsRight_124 : decode cL_areClientsRight 124 = .ok (.iload_n 3, 1) := by decide +kernel
theorem dL_areClientsRight_125 : decode cL_areClientsRight 125 = .ok (.iload 5, 2) := by decide +kernel
theorem dL_areClientsRight_127 : decode cL_areClientsRight 127 = .ok (.iconst 1, 1) := by decide +kernel
theorem dL_areClientsRight_128 : decode cL_areClientsRight 128 = .ok (.invokevirtual 25, 3) := by decide +kernel
theorem dL_areClientsRight_131 : decode cL_areClientsRight 131 = .ok (.ifCond .lt 7, 3) := by decide +kernel
theorem dL_areClientsRight_134 : decode cL_areClientsRight 134 = .ok (.iconst 1, 1) := by decide +kernel
theorem dL_areClientsRight_135 : decode cL_areClientsRight 135 = .ok (.goto 4, 3) := by decide +kernel
theorem dL_areClientsRight_138 : decode cL_areClientsRight 138 = .ok (.iconst 0, 1) := by decide +kernel
theorem dL_areClientsRight_139 : decode cL_areClientsRight 139 = .ok (.if_icmp .ne 60, 3) := by decide +kernel
theorem dL_areClientsRight_142 : decode cL_areClientsRight 142 = .ok (.iload 6, 2) := by decide +kernel
theorem dL_areClientsRight_144 : decode cL_areClientsRight 144 = .ok (.ifCond .ne 37, 3) := by decide +kernel
theorem dL_areClientsRight_147 : decode cL_areClientsRight 147 = .ok (.aload_n 0, 1) := by decide +kernel
theorem dL_areClientsRight_148 : decode cL_areClientsRight 148 = .ok (.iload_n 3, 1) := by decide +kernel
theorem dL_areClientsRight_149 : decode cL_areClientsRight 149 = .ok (.iload 5, 2) := by decide +kernel
theorem dL_areClientsRight_151 : decode cL_areClientsRight 151 = .ok (.iconst 2, 1) := by decide +kernel
theorem dL_areClientsRight_152 : decode cL_areClientsRight 152 = .ok (.invokevirtual 25, 3) := by decide +kernel
theorem dL_areClientsRight_155 : decode cL_areClientsRight 155 = .ok (.ifCond .ne 44, 3) := by decide +kernel
theorem dL_areClientsRight_158 : decode cL_areClientsRight 158 = .ok (.aload_n 0, 1) := by decide +kernel
theorem dL_areClientsRight_159 : decode cL_areClientsRight 159 = .ok (.iload_n 3, 1) := by decide +kernel
theorem dL_areClientsRight_160 : decode cL_areClientsRight 160 = .ok (.iload 5, 2) := by decide +kernel
theorem dL_areClientsRight_162 : decode cL_areClientsRight 162 = .ok (.iconst 3, 1) := by decide +kernel
theorem dL_areClientsRight_163 : decode cL_areClientsRight 163 = .ok (.invokevirtual 25, 3) := by decide +kernel
theorem dL_areClientsRight_166 : decode cL_areClientsRight 166 = .ok (.iconst (-1), 1) := by decide +kernel
theorem dL_areClientsRight_167 : decode cL_areClientsRight 167 = .ok (.if_icmp .ne 32, 3) := by decide +kernel
theorem dL_areClientsRight_170 : decode cL_areClientsRight 170 = .ok (.aload_n 0, 1) := by decide +kernel
theorem dL_areClientsRight_171 : decode cL_areClientsRight 171 = .ok (.iload_n 3, 1) := by decide +kernel
theorem dL_areClientsRight_172 : decode cL_areClientsRight 172 = .ok (.iload 5, 2) := by decide +kernel
theorem dL_areClientsRight_174 : decode cL_areClientsRight 174 = .ok (.iconst 4, 1) := by decide +kernel
theorem dL_areClientsRight_175 : decode cL_areClientsRight 175 = .ok (.invokevirtual 25, 3) := by decide +kernel
theorem dL_areClientsRight_178 : decode cL_areClientsRight 178 = .ok (.ifCond .ne 21, 3) := by decide +kernel
theorem dL_areClientsRight_181 : decode cL_areClientsRight 181 = .ok (.aload_n 0, 1) := by decide +kernel
theorem dL_areClientsRight_182 : decode cL_areClientsRight 182 = .ok (.iload_n 3, 1) := by decide +kernel
theorem dL_areClientsRight_183 : decode cL_areClientsRight 183 = .ok (.iload 5, 2) := by decide +kernel
theorem dL_areClientsRight_185 : decode cL_areClientsRight 185 = .ok (.iconst 1, 1) := by decide +kernel
theorem dL_areClientsRight_186 : decode cL_areClientsRight 186 = .ok (.invokevirtual 25, 3) := by decide +kernel
theorem dL_areClientsRight_189 : decode cL_areClientsRight 189 = .ok (.aload_n 0, 1) := by decide +kernel
theorem dL_areClientsRight_190 : decode cL_areClientsRight 190 = .ok (.iload 5, 2) := by decide +kernel
theorem dL_areClientsRight_192 : decode cL_areClientsRight 192 = .ok (.iconst 1, 1) := by decide +kernel
theorem dL_areClientsRight_193 : decode cL_areClientsRight 193 = .ok (.invokevirtual 85, 3) := by decide +kernel
theorem dL_areClientsRight_196 : decode cL_areClientsRight 196 = .ok (.if_icmp .le 5, 3) := by decide +kernel
theorem dL_areClientsRight_199 : decode cL_areClientsRight 199 = .ok (.iconst 0, 1) := by decide +kernel
theorem dL_areClientsRight_200 : decode cL_areClientsRight 200 = .ok (.ireturn, 1) := by decide +kernel
theorem dL_areClientsRight_201 : decode cL_areClientsRight 201 = .ok (.aload_n 0, 1) := by decide +kernel
theorem dL_areClientsRight_202 : decode cL_areClientsRight 202 = .ok (.iload_n 3, 1) := by decide +kernel
theorem dL_areClientsRight_203 : decode cL_areClientsRight 203 = .ok (.iload 5, 2) := by decide +kernel
theorem dL_areClientsRight_205 : decode cL_areClientsRight 205 = .ok (.iconst 2, 1) := by decide +kernel
theorem dL_areClientsRight_206 : decode cL_areClientsRight 206 = .ok (.invokevirtual 25, 3) := by decide +kernel
theorem dL_areClientsRight_209 : decode cL_areClientsRight 209 = .ok (.iconst 1, 1) := by decide +kernel
theorem dL_areClientsRight_210 : decode cL_areClientsRight 210 = .ok (.if_icmp .eq 30, 3) := by decide +kernel
theorem dL_areClientsRight_213 : decode cL_areClientsRight 213 = .ok (.aload_n 0, 1) := by decide +kernel
theorem dL_areClientsRight_214 : decode cL_areClientsRight 214 = .ok (.iload_n 3, 1) := by decide +kernel
theorem dL_areClientsRight_215 : decode cL_areClientsRight 215 = .ok (.iload 5, 2) := by decide +kernel
theorem dL_areClientsRight_217 : decode cL_areClientsRight 217 = .ok (.iconst 3, 1) := by decide +kernel
theorem dL_areClientsRight_218 : decode cL_areClientsRight 218 = .ok (.invokevirtual 25, 3) := by decide +kernel
theorem dL_areClientsRight_221 : decode cL_areClientsRight 221 = .ok (.ifCond .ge 19, 3) := by decide +kernel
theorem dL_areClientsRight_224 : decode cL_areClientsRight 224 = .ok (.iload 6, 2) := by decide +kernel
theorem dL_areClientsRight_226 : decode cL_areClientsRight 226 = .ok (.ifCond .eq 18, 3) := by decide +kernel
theorem dL_areClientsRight_229 : decode cL_areClientsRight 229 = .ok (.aload_n 0, 1) := by decide +kernel
theorem dL_areClientsRight_230 : decode cL_areClientsRight 230 = .ok (.iload_n 3, 1) := by decide +kernel
theorem dL_areClientsRight_231 : decode cL_areClientsRight 231 = .ok (.bipush 6, 2) := by decide +kernel
theorem dL_areClientsRight_233 : decode cL_areClientsRight 233 = .ok (.invokevirtual 43, 3) := by decide +kernel
theorem dL_areClientsRight_236 : decode cL_areClientsRight 236 = .ok (.iconst 1, 1) := by decide +kernel
theorem dL_areClientsRight_237 : decode cL_areClientsRight 237 = .ok (.if_icmp .ne 7, 3) := by decide +kernel
theorem dL_areClientsRight_240 : decode cL_areClientsRight 240 = .ok (.iconst 1, 1) := by decide +kernel
theorem dL_areClientsRight_241 : decode cL_areClientsRight 241 = .ok (.goto 4, 3) := by decide +kernel
theorem dL_areClientsRight_244 : decode cL_areClientsRight 244 = .ok (.iconst 0, 1) := by decide +kernel
theorem dL_areClientsRight_245 : decode cL_areClientsRight 245 = .ok (.istore 7, 2) := by decide +kernel
theorem dL_areClientsRight_247 : decode cL_areClientsRight 247 = .ok (.iload 7, 2) := by decide +kernel
theorem dL_areClientsRight_249 : decode cL_areClientsRight 249 = .ok (.aload_n 0, 1) := by decide +kernel
theorem dL_areClientsRight_250 : decode cL_areClientsRight 250 = .ok (.iload_n 3, 1) := by decide +kernel
theorem dL_areClientsRight_251 : decode cL_areClientsRight 251 = .ok (.iload 5, 2) := by decide +kernel
theorem dL_areClientsRight_253 : decode cL_areClientsRight 253 = .ok (.iconst 4, 1) := by decide +kernel
theorem dL_areClientsRight_254 : decode cL_areClientsRight 254 = .ok (.invokevirtual 25, 3) := by decide +kernel
theorem dL_areClientsRight_257 : decode cL_areClientsRight 257 = .ok (.iconst 1, 1) := by decide +kernel
theorem dL_areClientsRight_258 : decode cL_areClientsRight 258 = .ok (.if_icmp .ne 7, 3) := by decide +kernel
theorem dL_areClientsRight_261 : decode cL_areClientsRight 261 = .ok (.iconst 1, 1) := by decide +kernel
theorem dL_areClientsRight_262 : decode cL_areClientsRight 262 = .ok (.goto 4, 3) := by decide +kernel
theorem dL_areClientsRight_265 : decode cL_areClientsRight 265 = .ok (.iconst 0, 1) := by decide +kernel
theorem dL_areClientsRight_266 : decode cL_areClientsRight 266 = .ok (.if_icmp .ne 25, 3) := by decide +kernel
theorem dL_areClientsRight_269 : decode cL_areClientsRight 269 = .ok (.aload_n 0, 1) := by decide +kernel
theorem dL_areClientsRight_270 : decode cL_areClientsRight 270 = .ok (.iload_n 3, 1) := by decide +kernel
theorem dL_areClientsRight_271 : decode cL_areClientsRight 271 = .ok (.bipush 6, 2) := by decide +kernel
theorem dL_areClientsRight_273 : decode cL_areClientsRight 273 = .ok (.invokevirtual 43, 3) := by decide +kernel
theorem dL_areClientsRight_276 : decode cL_areClientsRight 276 = .ok (.iconst 1, 1) := by decide +kernel
theorem dL_areClientsRight_277 : decode cL_areClientsRight 277 = .ok (.if_icmp .ne 16, 3) := by decide +kernel
theorem dL_areClientsRight_280 : decode cL_areClientsRight 280 = .ok (.aload_n 0, 1) := by decide +kernel
theorem dL_areClientsRight_281 : decode cL_areClientsRight 281 = .ok (.iload_n 3, 1) := by decide +kernel
theorem dL_areClientsRight_282 : decode cL_areClientsRight 282 = .ok (.iload 5, 2) := by decide +kernel
theorem dL_areClientsRight_284 : decode cL_areClientsRight 284 = .ok (.iconst 5, 1) := by decide +kernel
theorem dL_areClientsRight_285 : decode cL_areClientsRight 285 = .ok (.invokevirtual 25, 3) := by decide +kernel
theorem dL_areClientsRight_288 : decode cL_areClientsRight 288 = .ok (.ifCond .eq 5, 3) := by decide +kernel
theorem dL_areClientsRight_291 : decode cL_areClientsRight 291 = .ok (.iconst 0, 1) := by decide +kernel
theorem dL_areClientsRight_292 : decode cL_areClientsRight 292 = .ok (.ireturn, 1) := by decide +kernel
theorem dL_areClientsRight_293 : decode cL_areClientsRight 293 = .ok (.iinc 5 1, 3) := by decide +kernel
theorem dL_areClientsRight_296 : decode cL_areClientsRight 296 = .ok (.goto (-215), 3) := by decide +kernel
theorem dL_areClientsRight_299 : decode cL_areClientsRight 299 = .ok (.iload 4, 2) := by decide +kernel
theorem dL_areClientsRight_301 : decode cL_areClientsRight 301 = .ok (.aload_n 0, 1) := by decide +kernel
theorem dL_areClientsRight_302 : decode cL_areClientsRight 302 = .ok (.iload_n 3, 1) := by decide +kernel
theorem dL_areClientsRight_303 : decode cL_areClientsRight 303 = .ok (.iconst 0, 1) := by decide +kernel
theorem dL_areClientsRight_304 : decode cL_areClientsRight 304 = .ok (.invokevirtual 43, 3) := by decide +kernel
theorem dL_areClientsRight_307 : decode cL_areClientsRight 307 = .ok (.if_icmp .ne 13, 3) := by decide +kernel
theorem dL_areClientsRight_310 : decode cL_areClientsRight 310 = .ok (.aload_n 0, 1) := by decide +kernel
theorem dL_areClientsRight_311 : decode cL_areClientsRight 311 = .ok (.iload_n 3, 1) := by decide +kernel
theorem dL_areClientsRight_312 : decode cL_areClientsRight 312 = .ok (.iload 4, 2) := by decide +kernel
theorem dL_areClientsRight_314 : decode cL_areClientsRight 314 = .ok (.invokestatic 101, 3) := by decide +kernel
theorem dL_areClientsRight_317 : decode cL_areClientsRight 317 = .ok (.ifCond .ne 5, 3) := by decide +kernel
theorem dL_areClientsRight_320 : decode cL_areClientsRight 320 = .ok (.iconst 0, 1) := by decide +kernel
theorem dL_areClientsRight_321 : decode cL_areClientsRight 321 = .ok (.ireturn, 1) := by decide +kernel
theorem dL_areClientsRight_322 : decode cL_areClientsRight 322 = .ok (.iinc 3 1, 3) := by decide +kernel
theorem dL_areClientsRight_325 : decode cL_areClientsRight 325 = .ok (.goto (-323), 3) := by decide +kernel
theorem dL_areClientsRight_328 : decode cL_areClientsRight 328 = .ok (.aload_n 0, 1) := by decide +kernel
theorem dL_areClientsRight_329 : decode cL_areClientsRight 329 = .ok (.invokevirtual 105, 3) := by decide +kernel
theorem dL_areClientsRight_332 : decode cL_areClientsRight 332 = .ok (.ifCond .lt 21, 3) := by decide +kernel
theorem dL_areClientsRight_335 : decode cL_areClientsRight 335 = .ok (.aload_n 0, 1) := by decide +kernel
theorem dL_areClientsRight_336 : decode cL_areClientsRight 336 = .ok (.invokevirtual 105, 3) := by decide +kernel
theorem dL_areClientsRight_339 : decode cL_areClientsRight 339 = .ok (.bipush 6, 2) := by decide +kernel
theorem dL_areClientsRight_341 : decode cL_areClientsRight 341 = .ok (.aload_n 0, 1) := by decide +kernel
theorem dL_areClientsRight_342 : decode cL_areClientsRight 342 = .ok (.invokevirtual 94, 3) := by decide +kernel
theorem dL_areClientsRight_345 : decode cL_areClientsRight 345 = .ok (.imul, 1) := by decide +kernel
theorem dL_areClientsRight_346 : decode cL_areClientsRight 346 = .ok (.if_icmp .gt 7, 3) := by decide +kernel
theorem dL_areClientsRight_349 : decode cL_areClientsRight 349 = .ok (.iconst 1, 1) := by decide +kernel
theorem dL_areClientsRight_350 : decode cL_areClientsRight 350 = .ok (.goto 4, 3) := by decide +kernel
theorem dL_areClientsRight_353 : decode cL_areClientsRight 353 = .ok (.iconst 0, 1) := by decide +kernel
theorem dL_areClientsRight_354 : decode cL_areClientsRight 354 = .ok (.ireturn, 1) := by decide +kernel
theorem dL_areUsedRight_0 : decode cL_areUsedRight 0 = .ok (.iconst 0, 1) := by decide +kernel
theorem dL_areUsedRight_1 : decode cL_areUsedRight 1 = .ok (.istore_n 3, 1) := by decide +kernel
theorem dL_areUsedRight_2 : decode cL_areUsedRight 2 = .ok (.iconst 0, 1) := by decide +kernel
theorem dL_areUsedRight_3 : decode cL_areUsedRight 3 = .ok (.istore 4, 2) := by decide +kernel
theorem dL_areUsedRight_5 : decode cL_areUsedRight 5 = .ok (.iload 4, 2) := by decide +kernel
theorem dL_areUsedRight_7 : decode cL_areUsedRight 7 = .ok (.iload_n 2, 1) := by decide +kernel
theorem dL_areUsedRight_8 : decode cL_areUsedRight 8 = .ok (.if_icmp .ge 47, 3) := by decide +kernel
theorem dL_areUsedRight_11 : decode cL_areUsedRight 11 = .ok (.aload_n 0, 1) := by decide +kernel
theorem dL_areUsedRight_12 : decode cL_areUsedRight 12 = .ok (.iload_n 1, 1) := by decide +kernel
theorem dL_areUsedRight_13 : decode cL_areUsedRight 13 = .ok (.iload 4, 2) := by decide +kernel
theorem dL_areUsedRight_15 : decode cL_areUsedRight 15 = .ok (.invokevirtual 32, 3) := by decide +kernel
theorem dL_areUsedRight_18 : decode cL_areUsedRight 18 = .ok (.istore 5, 2) := by decide +kernel
theorem dL_areUsedRight_20 : decode cL_areUsedRight 20 = .ok (.iload_n 3, 1) := by decide +kernel
theorem dL_areUsedRight_21 : decode cL_areUsedRight 21 = .ok (.iload 5, 2) := by decide +kernel
theorem dL_areUsedRight_23 : decode cL_areUsedRight 23 = .ok (.ishr, 1) := by decide +kernel
theorem dL_areUsedRight_24 : decode cL_areUsedRight 24 = .ok (.iconst 1, 1) := by decide +kernel
theorem dL_areUsedRight_25 : decode cL_areUsedRight 25 = .ok (.iand, 1) := by decide +kernel
theorem dL_areUsedRight_26 : decode cL_areUsedRight 26 = .ok (.ifCond .ne 14, 3) := by decide +kernel
theorem dL_areUsedRight_29 : decode cL_areUsedRight 29 = .ok (.aload_n 0, 1) := by decide +kernel
theorem dL_areUsedRight_30 : decode cL_areUsedRight 30 = .ok (.iload_n 1, 1) := by decide +kernel
theorem dL_areUsedRight_31 : decode cL_areUsedRight 31 = .ok (.iload 5, 2) := by decide +kernel
theorem dL_areUsedRight_33 : decode cL_areUsedRight 33 = .ok (.iconst 0, 1) := by decide +kernel
theorem dL_areUsedRight_34 : decode cL_areUsedRight 34 = .ok (.invokevirtual 25, 3) := by decide +kernel
theorem dL_areUsedRight_37 : decode cL_areUsedRight 37 = .ok (.ifCond .ge 5, 3) := by decide +kernel
theorem dL_areUsedRight_40 : decode cL_areUsedRight 40 = .ok (.iconst 0, 1) := by decide +kernel
theorem dL_areUsedRight_41 : decode cL_areUsedRight 41 = .ok (.ireturn, 1) := by decide +kernel
theorem dL_areUsedRight_42 : decode cL_areUsedRight 42 = .ok (.iload_n 3, 1) := by decide +kernel
theorem dL_areUsedRight_43 : decode cL_areUsedRight 43 = .ok (.iconst 1, 1) := by decide +kernel
theorem dL_areUsedRight_44 : decode cL_areUsedRight 44 = .ok (.iload 5, 2) := by decide +kernel
theorem dL_areUsedRight_46 : decode cL_areUsedRight 46 = .ok (.ishl, 1) := by decide +kernel
theorem dL_areUsedRight_47 : decode cL_areUsedRight 47 = .ok (.ior, 1) := by decide +kernel
theorem dL_areUsedRight_48 : decode cL_areUsedRight 48 = .ok (.istore_n 3, 1) := by decide +kernel
theorem dL_areUsedRight_49 : decode cL_areUsedRight 49 = .ok (.iinc 4 1, 3) := by decide +kernel
theorem dL_areUsedRight_52 : decode cL_areUsedRight 52 = .ok (.goto (-47), 3) := by decide +kernel
theorem dL_areUsedRight_55 : decode cL_areUsedRight 55 = .ok (.iconst 1, 1) := by decide +kernel
theorem dL_areUsedRight_56 : decode cL_areUsedRight 56 = .ok (.ireturn, 1) := by decide +kernel
theorem dL_isWayRight_0 : decode cL_isWayRight 0 = .ok (.iconst 0, 1) := by decide +kernel
theorem dL_isWayRight_1 : decode cL_isWayRight 1 = .ok (.istore_n 1, 1) := by decide +kernel
theorem dL_isWayRight_2 : decode cL_isWayRight 2 = .ok (.iload_n 1, 1) := by decide +kernel
theorem dL_isWayRight_3 : decode cL_isWayRight 3 = .ok (.aload_n 0, 1) := by decide +kernel
theorem dL_isWayRight_4 : decode cL_isWayRight 4 = .ok (.invokevirtual 91, 3) := by decide +kernel
theorem dL_isWayRight_7 : decode cL_isWayRight 7 = .ok (.if_icmp .ge 77, 3) := by decide +kernel
theorem dL_isWayRight_10 : decode cL_isWayRight 10 = .ok (.aload_n 0, 1) := by decide +kernel
theorem dL_isWayRight_11 : decode cL_isWayRight 11 = .ok (.iload_n 1, 1) := by decide +kernel
theorem dL_isWayRight_12 : decode cL_isWayRight 12 = .ok (.iconst 3, 1) := by decide +kernel
theorem dL_isWayRight_13 : decode cL_isWayRight 13 = .ok (.invokevirtual 108, 3) := by decide +kernel
theorem dL_isWayRight_16 : decode cL_isWayRight 16 = .ok (.istore_n 2, 1) := by decide +kernel
theorem dL_isWayRight_17 : decode cL_isWayRight 17 = .ok (.iload_n 2, 1) := by decide +kernel
theorem dL_isWayRight_18 : decode cL_isWayRight 18 = .ok (.aload_n 0, 1) := by decide +kernel
theorem dL_isWayRight_19 : decode cL_isWayRight 19 = .ok (.invokevirtual 81, 3) := by decide +kernel
theorem dL_isWayRight_22 : decode cL_isWayRight 22 = .ok (.if_icmp .le 54, 3) := by decide +kernel
theorem dL_isWayRight_25 : decode cL_isWayRight 25 = .ok (.iload_n 2, 1) := by decide +kernel
theorem dL_isWayRight_26 : decode cL_isWayRight 26 = .ok (.aload_n 0, 1) := by decide +kernel
theorem dL_isWayRight_27 : decode cL_isWayRight 27 = .ok (.invokevirtual 81, 3) := by decide +kernel
theorem dL_isWayRight_30 : decode cL_isWayRight 30 = .ok (.bipush 6, 2) := by decide +kernel
theorem dL_isWayRight_32 : decode cL_isWayRight 32 = .ok (.iadd, 1) := by decide +kernel
theorem dL_isWayRight_33 : decode cL_isWayRight 33 = .ok (.if_icmp .gt 43, 3) := by decide +kernel
theorem dL_isWayRight_36 : decode cL_isWayRight 36 = .ok (.iload_n 1, 1) := by decide +kernel
theorem dL_isWayRight_37 : decode cL_isWayRight 37 = .ok (.ifCond .le 15, 3) := by decide +kernel
theorem dL_isWayRight_40 : decode cL_isWayRight 40 = .ok (.iload_n 2, 1) := by decide +kernel
theorem dL_isWayRight_41 : decode cL_isWayRight 41 = .ok (.aload_n 0, 1) := by decide +kernel
theorem dL_isWayRight_42 : decode cL_isWayRight 42 = .ok (.iload_n 1, 1) := by decide +kernel
theorem dL_isWayRight_43 : decode cL_isWayRight 43 = .ok (.iconst 1, 1) := by decide +kernel
theorem dL_isWayRight_44 : decode cL_isWayRight 44 = .ok (.isub, 1) := by decide +kernel
theorem dL_isWayRight_45 : decode cL_isWayRight 45 = .ok (.iconst 3, 1) := by decide +kernel
theorem dL_isWayRight_46 : decode cL_isWayRight 46 = .ok (.invokevirtual 108, 3) := by decide +kernel
theorem dL_isWayRight_49 : decode cL_isWayRight 49 = .ok (.if_icmp .lt 27, 3) := by decide +kernel
theorem dL_isWayRight_52 : decode cL_isWayRight 52 = .ok (.aload_n 0, 1) := by decide +kernel
theorem dL_isWayRight_53 : decode cL_isWayRight 53 = .ok (.iload_n 1, 1) := by decide +kernel
theorem dL_isWayRight_54 : decode cL_isWayRight 54 = .ok (.iconst 1, 1) := by decide +kernel
theorem dL_isWayRight_55 : decode cL_isWayRight 55 = .ok (.invokevirtual 108, 3) := by decide +kernel
theorem dL_isWayRight_58 : decode cL_isWayRight 58 = .ok (.bipush 6, 2) := by decide +kernel
theorem dL_isWayRight_60 : decode cL_isWayRight 60 = .ok (.if_icmp .gt 16, 3) := by decide +kernel
theorem dL_isWayRight_63 : decode cL_isWayRight 63 = .ok (.aload_n 0, 1) := by decide +kernel
theorem dL_isWayRight_64 : decode cL_isWayRight 64 = .ok (.iload_n 1, 1) := by decide +kernel
theorem dL_isWayRight_65 : decode cL_isWayRight 65 = .ok (.iconst 0, 1) := by decide +kernel
theorem dL_isWayRight_66 : decode cL_isWayRight 66 = .ok (.invokevirtual 108, 3) := by decide +kernel
theorem dL_isWayRight_69 : decode cL_isWayRight 69 = .ok (.aload_n 0, 1) := by decide +kernel
theorem dL_isWayRight_70 : decode cL_isWayRight 70 = .ok (.invokevirtual 94, 3) := by decide +kernel
theorem dL_isWayRight_73 : decode cL_isWayRight 73 = .ok (.if_icmp .lt 5, 3) := by decide +kernel
theorem dL_isWayRight_76 : decode cL_isWayRight 76 = .ok (.iconst 0, 1) := by decide +kernel
theorem dL_isWayRight_77 : decode cL_isWayRight 77 = .ok (.ireturn, 1) := by decide +kernel
theorem dL_isWayRight_78 : decode cL_isWayRight 78 = .ok (.iinc 1 1, 3) := by decide +kernel
theorem dL_isWayRight_81 : decode cL_isWayRight 81 = .ok (.goto (-79), 3) := by decide +kernel
theorem dL_isWayRight_84 : decode cL_isWayRight 84 = .ok (.iconst 1, 1) := by decide +kernel
theorem dL_isWayRight_85 : decode cL_isWayRight 85 = .ok (.ireturn, 1) := by decide +kernel
end
section
/-! ===== MY OWN LAYER: an abstract machine over the kit's rows. A heap of numbered cells (1, 2, ..), the k-th new cell of the run at the address base + k - 1; a reference is its number (0: the script) ===== -/
abbrev LSt : Type := List (Option Value)
/-- how many cells, how many slots in them, of each its kind (class, fields) or (6 + array type, length), what it holds -/
abbrev AH : Type := Nat × Nat × (Nat → Nat × Nat) × (Nat → Nat → Value)
abbrev hsz (hp : AH) : Nat := hp.1
abbrev htot (hp : AH) : Nat := hp.2.1
abbrev hk (hp : AH) (i : Nat) : Nat × Nat := hp.2.2.1 i
abbrev hv (hp : AH) (i k : Nat) : Value := hp.2.2.2 i k
def hset (hp : AH) (i k : Nat) (v : Value) : AH := (hp.1, hp.2.1, hp.2.2.1, fun j l => if j = i ∧ l = k then v else hp.2.2.2 j l)
def hnew (hp : AH) (t n : Nat) (z : Nat → Value) : AH := (hp.1 + 1, hp.2.1 + n, fun j => if j = hp.1 + 1 then (t, n) else hp.2.2.1 j, fun j k => if j = hp.1 + 1 then z k else hp.2.2.2 j k)
def toI : Value → Int32
  | .int x => x
  | _ => 0
def hcpy (hp : AH) (src dst sp dp n : Nat) : AH := (hp.1, hp.2.1, hp.2.2.1, fun j l => if j = dst then (if dp ≤ l ∧ l < dp + n then .int (toI (hp.2.2.2 src (sp + (l - dp)))) else hp.2.2.2 j l) else hp.2.2.2 j l)
/-- addresses -/
def ca (base b : Nat) : Nat → Nat
  | 0 => b
  | i + 1 => base + i
def cv (base b : Nat) : Value → Value
  | .ref i => .ref (ca base b i)
  | v => v
def toR (base b : Nat) : Value → Option Nat
  | .ref i => some (ca base b i)
  | _ => none
/-- what an array of references answers -/
def rfv : Value → Value
  | .ref i => .ref i
  | _ => .null
def ce (base b : Nat) (cT : Nat → ClassId) (kt : Nat × Nat) (f : Nat → Value) : va_E :=
  if kt.1 < 6 then .inr (kt.1, (List.range kt.2).map fun k => cv base b (f k))
  else if kt.1 = 6 then .inl (cT 0, (kt.2, .inl (fun k => toI (f k))))
  else .inl (cT (kt.1 - 6), (kt.2, .inr (.inr (.inr (.inr (fun k => toR base b (f k)))))))
def cw (base b : Nat) (cT : Nat → ClassId) (hp : AH) : va_W := (List.range (hsz hp)).map fun i => (base + i, ce base b cT (hk hp (i + 1)) (hv hp (i + 1)))
abbrev tysL (cT : Nat → ClassId) : List (ClassId × FieldType) := [(cT 0, .int), (cT 1, .object RX0), (cT 2, .object RX1), (cT 3, .object RX3), (cT 4, .object RX4)]
theorem cv_cat (base b : Nat) (v : Value) : (cv base b v).category = v.category := by cases v <;> rfl
theorem cw_get {base b : Nat} {cT : Nat → ClassId} {hp : AH} {i : Nat} (h : i < hsz hp) : (cw base b cT hp)[i]? = some (base + i, ce base b cT (hk hp (i + 1)) (hv hp (i + 1))) := by
  simp [cw, h]
theorem cw_len (base b : Nat) (cT : Nat → ClassId) (hp : AH) : (cw base b cT hp).length = hsz hp := by simp [cw]
theorem cw_D (base b : Nat) (cT : Nat → ClassId) (hp : AH) : va_D (fun q => base ≤ q) (cw base b cT hp) := by
  have key : ∀ (k : Nat) (q : Nat × va_E), (cw base b cT hp)[k]? = some q → q.1 = base + k := by
    intro k q h
    simp only [cw, List.getElem?_map, Option.map_eq_some_iff] at h
    obtain ⟨a, h1, rfl⟩ := h
    obtain ⟨h2, h3⟩ := List.getElem?_eq_some_iff.mp h1
    rw [List.getElem_range] at h3
    subst h3
    rfl
  refine ⟨fun i j p q h1 h2 h3 => ?_, fun k q h => ?_⟩
  · have a := key i p h1
    have b := key j q h2
    omega
  · have a := key k q h
    show base ≤ q.1
    omega
theorem cw_upd {base b : Nat} {cT : Nat → ClassId} {hp hp' : AH} {i : Nat} {e : va_E} (hs : hsz hp' = hsz hp) (hi : i < hsz hp) (he : ce base b cT (hk hp' (i + 1)) (hv hp' (i + 1)) = e) (ho : ∀ j, j ≠ i + 1 → hk hp' j = hk hp j ∧ hv hp' j = hv hp j) :
    (cw base b cT hp).set i (base + i, e) = cw base b cT hp' := by
  apply List.ext_getElem?
  intro k
  by_cases hk' : k < hsz hp
  · by_cases hki : k = i
    · subst hki
      rw [List.getElem?_set_self (by rw [cw_len]; exact hk'), cw_get (by rw [hs]; exact hk'), he]
    · rw [List.getElem?_set_ne (fun q => hki q.symm), cw_get hk', cw_get (by rw [hs]; exact hk'), (ho (k + 1) (by omega)).1, (ho (k + 1) (by omega)).2]
  · rw [List.getElem?_eq_none (by rw [List.length_set, cw_len]; omega), List.getElem?_eq_none (by rw [cw_len]; omega)]
theorem cw_new {base b : Nat} {cT : Nat → ClassId} {hp : AH} {t n : Nat} {z : Nat → Value} {e : va_E} (he : ce base b cT (t, n) z = e) : cw base b cT hp ++ [(base + hsz hp, e)] = cw base b cT (hnew hp t n z) := by
  apply List.ext_getElem?
  intro k
  rcases Nat.lt_trichotomy k (hsz hp) with h | h | h
  · rw [List.getElem?_append_left (by rw [cw_len]; exact h), cw_get h, cw_get (by show k < hp.1 + 1; have : k < hp.1 := h; omega)]
    have h1 : ¬ k + 1 = hp.1 + 1 := by have : k < hp.1 := h; omega
    show _ = some (base + k, ce base b cT (if k + 1 = hp.1 + 1 then (t, n) else hp.2.2.1 (k + 1)) (fun l => if k + 1 = hp.1 + 1 then z l else hp.2.2.2 (k + 1) l))
    simp only [if_neg h1]
  · subst h
    rw [List.getElem?_append_right (by rw [cw_len]; exact Nat.le_refl _), cw_len, Nat.sub_self, cw_get (by show hp.1 < hp.1 + 1; omega)]
    show some (base + hp.1, e) = some (base + hp.1, ce base b cT (if hp.1 + 1 = hp.1 + 1 then (t, n) else hp.2.2.1 (hp.1 + 1)) (fun l => if hp.1 + 1 = hp.1 + 1 then z l else hp.2.2.2 (hp.1 + 1) l))
    rw [← he]
    simp only [if_true]
  · rw [List.getElem?_eq_none (by rw [List.length_append, cw_len]; show hp.1 + 1 ≤ k; exact h), List.getElem?_eq_none (by rw [cw_len]; show hp.1 + 1 ≤ k; exact h)]
/-! locals: a value by its place, none where nothing is known -/
def lvl (base b : Nat) : Nat → LSt → List (Nat × Value)
  | _, [] => []
  | i, none :: t => lvl base b (i + 1) t
  | i, some v :: t => (i, cv base b v) :: lvl base b (i + 1) t
theorem lvl_mem {base b : Nat} : ∀ {ls : LSt} {i j : Nat} {w : Value}, (j, w) ∈ lvl base b i ls ↔ ∃ k v, ls[k]? = some (some v) ∧ j = i + k ∧ w = cv base b v
  | [], i, j, w => by simp [lvl]
  | o :: t, i, j, w => by
    have ih : ∀ {i}, (j, w) ∈ lvl base b i t ↔ ∃ k v, t[k]? = some (some v) ∧ j = i + k ∧ w = cv base b v := lvl_mem
    cases o with
    | none =>
      rw [lvl, ih]
      constructor
      · rintro ⟨k, v, h1, h2, h3⟩
        exact ⟨k + 1, v, by simpa using h1, by omega, h3⟩
      · rintro ⟨k, v, h1, h2, h3⟩
        cases k with
        | zero => simp at h1
        | succ k => exact ⟨k, v, by simpa using h1, by omega, h3⟩
    | some x =>
      rw [lvl, List.mem_cons, ih]
      constructor
      · rintro (h | ⟨k, v, h1, h2, h3⟩)
        · cases h
          exact ⟨0, x, rfl, rfl, rfl⟩
        · exact ⟨k + 1, v, by simpa using h1, by omega, h3⟩
      · rintro ⟨k, v, h1, h2, h3⟩
        cases k with
        | zero =>
          simp at h1
          subst h1
          left
          rw [h2, h3]; rfl
        | succ k => exact Or.inr ⟨k, v, by simpa using h1, by omega, h3⟩
def Lh (base b : Nat) (ls : LSt) (A : Array Slot) : Prop := lv_has A ls.length (lvl base b 0 ls)
theorem Lh.get {base b : Nat} {ls : LSt} {A : Array Slot} (h : Lh base b ls A) {i : Nat} {v : Value} (hi : ls[i]? = some (some v)) : A[i]? = some (.val (cv base b v)) :=
  h.2.2 (i, cv base b v) (lvl_mem.mpr ⟨i, v, hi, by omega, rfl⟩)
/-- storing a value of one word -/
def ls1 : LSt → Nat → Value → LSt
  | [], _, _ => []
  | _ :: t, 0, v => some v :: t
  | o :: t, 1, v => (match o with | some w => if w.category = 2 then none else some w | none => none) :: ls1 t 0 v
  | o :: t, i + 2, v => o :: ls1 t (i + 1) v
/-- storing a value of two words -/
def ls2t : LSt → LSt
  | [] => []
  | _ :: t => none :: t
def ls2 : LSt → Nat → Value → LSt
  | [], _, _ => []
  | _ :: t, 0, v => some v :: ls2t t
  | o :: t, 1, v => (match o with | some w => if w.category = 2 then none else some w | none => none) :: ls2 t 0 v
  | o :: t, i + 2, v => o :: ls2 t (i + 1) v
theorem ls1_len : ∀ (ls : LSt) (i : Nat) (v : Value), (ls1 ls i v).length = ls.length
  | [], _, _ => by simp [ls1]
  | _ :: t, 0, v => by simp [ls1]
  | o :: t, 1, v => by simp [ls1, ls1_len t 0 v]
  | o :: t, i + 2, v => by simp [ls1, ls1_len t (i + 1) v]
theorem ls2_len : ∀ (ls : LSt) (i : Nat) (v : Value), (ls2 ls i v).length = ls.length
  | [], _, _ => by simp [ls2]
  | _ :: t, 0, v => by cases t <;> simp [ls2, ls2t]
  | o :: t, 1, v => by simp [ls2, ls2_len t 0 v]
  | o :: t, i + 2, v => by simp [ls2, ls2_len t (i + 1) v]
theorem ls1_get : ∀ {ls : LSt} {i : Nat} {v : Value} {j : Nat} {w : Value}, (ls1 ls i v)[j]? = some (some w) → (j = i ∧ w = v) ∨ (j ≠ i ∧ ls[j]? = some (some w) ∧ ¬ (j + 1 = i ∧ w.category = 2))
  | [], _, _, j, w, h => by simp [ls1] at h
  | _ :: t, 0, v, 0, w, h => by simp [ls1] at h; exact Or.inl ⟨rfl, h.symm⟩
  | _ :: t, 0, v, j + 1, w, h => by simp [ls1] at h; exact Or.inr ⟨by omega, by simpa using h, by omega⟩
  | o :: t, 1, v, 0, w, h => by
    cases o with
    | none => simp [ls1] at h
    | some x =>
      simp only [ls1, List.getElem?_cons_zero, Option.some.injEq] at h
      by_cases hc : x.category = 2
      · rw [if_pos hc] at h; cases h
      · rw [if_neg hc] at h
        cases h
        exact Or.inr ⟨by omega, rfl, fun q => hc q.2⟩
  | o :: t, 1, v, j + 1, w, h => by
    have h1 : (ls1 t 0 v)[j]? = some (some w) := by simpa [ls1] using h
    rcases ls1_get h1 with ⟨a, b⟩ | ⟨a, b, c⟩
    · exact Or.inl ⟨by omega, b⟩
    · exact Or.inr ⟨by omega, by simpa using b, fun q => by omega⟩
  | o :: t, i + 2, v, 0, w, h => by
    simp [ls1] at h
    exact Or.inr ⟨by omega, by simp [h], fun q => by omega⟩
  | o :: t, i + 2, v, j + 1, w, h => by
    have h1 : (ls1 t (i + 1) v)[j]? = some (some w) := by simpa [ls1] using h
    rcases ls1_get h1 with ⟨a, b⟩ | ⟨a, b, c⟩
    · exact Or.inl ⟨by omega, b⟩
    · exact Or.inr ⟨by omega, by simpa using b, fun q => c ⟨by omega, q.2⟩⟩
theorem ls2_get : ∀ {ls : LSt} {i : Nat} {v : Value} {j : Nat} {w : Value}, (ls2 ls i v)[j]? = some (some w) → (j = i ∧ w = v) ∨ (j ≠ i ∧ j ≠ i + 1 ∧ ls[j]? = some (some w) ∧ ¬ (j + 1 = i ∧ w.category = 2))
  | [], _, _, j, w, h => by simp [ls2] at h
  | _ :: t, 0, v, 0, w, h => by simp [ls2] at h; exact Or.inl ⟨rfl, h.symm⟩
  | _ :: [], 0, v, j + 1, w, h => by simp [ls2, ls2t] at h
  | _ :: _ :: t, 0, v, 1, w, h => by simp [ls2, ls2t] at h
  | _ :: _ :: t, 0, v, j + 2, w, h => by simp [ls2, ls2t] at h; exact Or.inr ⟨by omega, by omega, by simpa using h, by omega⟩
  | o :: t, 1, v, 0, w, h => by
    cases o with
    | none => simp [ls2] at h
    | some x =>
      simp only [ls2, List.getElem?_cons_zero, Option.some.injEq] at h
      by_cases hc : x.category = 2
      · rw [if_pos hc] at h; cases h
      · rw [if_neg hc] at h
        cases h
        exact Or.inr ⟨by omega, by omega, rfl, fun q => hc q.2⟩
  | o :: t, 1, v, j + 1, w, h => by
    have h1 : (ls2 t 0 v)[j]? = some (some w) := by simpa [ls2] using h
    rcases ls2_get h1 with ⟨a, b⟩ | ⟨a, a2, b, c⟩
    · exact Or.inl ⟨by omega, b⟩
    · exact Or.inr ⟨by omega, by omega, by simpa using b, fun q => by omega⟩
  | o :: t, i + 2, v, 0, w, h => by
    simp [ls2] at h
    exact Or.inr ⟨by omega, by omega, by simp [h], fun q => by omega⟩
  | o :: t, i + 2, v, j + 1, w, h => by
    have h1 : (ls2 t (i + 1) v)[j]? = some (some w) := by simpa [ls2] using h
    rcases ls2_get h1 with ⟨a, b⟩ | ⟨a, a2, b, c⟩
    · exact Or.inl ⟨by omega, b⟩
    · exact Or.inr ⟨by omega, by omega, by simpa using b, fun q => c ⟨by omega, q.2⟩⟩
theorem Lh.st1 {base b : Nat} {ls : LSt} {A' : Array Slot} {i : Nat} {v : Value} (h : lv_has A' ls.length ((i, cv base b v) :: (lvl base b 0 ls).filter (fun q => !(q.1 == i) && !(q.1 + 1 == i && q.2.category == 2)))) : Lh base b (ls1 ls i v) A' := by
  refine ⟨by rw [ls1_len]; exact h.1, h.2.1, fun q hq => ?_⟩
  obtain ⟨j, w⟩ := q
  obtain ⟨k, x, h1, h2, h3⟩ := lvl_mem.mp hq
  rw [Nat.zero_add] at h2
  subst h2
  rcases ls1_get h1 with ⟨a, c⟩ | ⟨a, c, e⟩
  · subst a; subst c
    rw [h3]
    exact h.2.2 _ List.mem_cons_self
  · refine h.2.2 (j, w) (List.mem_cons_of_mem _ (List.mem_filter.mpr ⟨lvl_mem.mpr ⟨j, x, c, by omega, h3⟩, ?_⟩))
    have hcat : w.category = x.category := by rw [h3, cv_cat]
    simp only [Bool.and_eq_true, Bool.not_eq_true', beq_eq_false_iff_ne, ne_eq, Bool.and_eq_false_iff]
    refine ⟨a, ?_⟩
    by_cases z : j + 1 = i
    · exact Or.inr (fun y => e ⟨z, by rw [← hcat]; exact y⟩)
    · exact Or.inl z
theorem Lh.st2 {base b : Nat} {ls : LSt} {A' : Array Slot} {i : Nat} {v : Value} (h : lv_has A' ls.length ((i, cv base b v) :: (lvl base b 0 ls).filter (fun q => !(q.1 == i) && (!(q.1 == i + 1) && !(q.1 + 1 == i && q.2.category == 2))))) : Lh base b (ls2 ls i v) A' := by
  refine ⟨by rw [ls2_len]; exact h.1, h.2.1, fun q hq => ?_⟩
  obtain ⟨j, w⟩ := q
  obtain ⟨k, x, h1, h2, h3⟩ := lvl_mem.mp hq
  rw [Nat.zero_add] at h2
  subst h2
  rcases ls2_get h1 with ⟨a, c⟩ | ⟨a, a2, c, e⟩
  · subst a; subst c
    rw [h3]
    exact h.2.2 _ List.mem_cons_self
  · refine h.2.2 (j, w) (List.mem_cons_of_mem _ (List.mem_filter.mpr ⟨lvl_mem.mpr ⟨j, x, c, by omega, h3⟩, ?_⟩))
    have hcat : w.category = x.category := by rw [h3, cv_cat]
    simp only [Bool.and_eq_true, Bool.not_eq_true', beq_eq_false_iff_ne, ne_eq, Bool.and_eq_false_iff]
    refine ⟨a, a2, ?_⟩
    by_cases z : j + 1 = i
    · exact Or.inr (fun y => e ⟨z, by rw [← hcat]; exact y⟩)
    · exact Or.inl z
end
section
/-! ===== the judgement ===== -/
/-- entry: the arguments in their places -/
def ent0 : List Value → LSt
  | [] => []
  | v :: t => if v.category = 2 then some v :: none :: ent0 t else some v :: ent0 t
def ent (n : Nat) (args : List Value) : LSt := ent0 args ++ List.replicate (n - (ent0 args).length) none
theorem lvl_none (base b : Nat) : ∀ (n i : Nat), lvl base b i (List.replicate n none) = []
  | 0, _ => rfl
  | n + 1, i => by rw [List.replicate_succ, lvl, lvl_none base b n]
theorem lvl_ent (base b : Nat) (n : Nat) : ∀ (args : List Value) (i : Nat), lvl base b i (ent0 args ++ List.replicate n none) = lv_args i (args.map (cv base b))
  | [], i => by simp [ent0, lvl_none, lv_args]
  | v :: t, i => by
    by_cases h : v.category = 2
    · rw [ent0, if_pos h]
      show lvl base b i (some v :: none :: (ent0 t ++ List.replicate n none)) = _
      rw [lvl, lvl, lvl_ent base b n t, List.map_cons, lv_args, if_pos (by rw [cv_cat]; exact h)]
    · rw [ent0, if_neg h]
      show lvl base b i (some v :: (ent0 t ++ List.replicate n none)) = _
      rw [lvl, lvl_ent base b n t, List.map_cons, lv_args, if_neg (by rw [cv_cat]; exact h)]
theorem ent0_len (base b : Nat) : ∀ (args : List Value), (lg_sl (args.map (cv base b))).length = (ent0 args).length
  | [] => rfl
  | v :: t => by
    have ih := ent0_len base b t
    simp only [lg_sl, List.map_cons, List.flatMap_cons, List.length_append, cv_cat] at ih ⊢
    rw [ih]
    by_cases h : v.category = 2
    · rw [ent0, if_pos h, if_pos h]; simp; omega
    · rw [ent0, if_neg h, if_neg h]; simp; omega
theorem ent_has {base b n : Nat} {args : List Value} (h : (ent0 args).length ≤ n) : Lh base b (ent n args) ((lg_sl (args.map (cv base b)) ++ List.replicate (n - (lg_sl (args.map (cv base b))).length) Slot.unset).toArray) := by
  have h1 := lv_entry (args.map (cv base b)) (n := n) (by rw [ent0_len]; exact h)
  have hn : (ent n args).length = n := by simp [ent]; omega
  unfold Lh
  rw [hn, ent, lvl_ent]
  exact h1
/-- what a method's state is bound to: the machine, the words, the tables, the room, the script -/
def Cx (L : Nat) (xs : Nat → Int32) (M : MD) (d : Nat) (p : Program) (R : Room) (s : State) (m : MethodId) (args : Array Value) (meth : Method) (c : Code) (base b : Nat) (D : va_G) (cT : Nat → ClassId) (mc ms : Nat) : Prop :=
  p.tables.exec = Jvm.exec ∧ c.code = M.2.1 ∧ c.maxLocals = M.2.2.1 ∧ s.vm.findClass M.1.cls = some m.cls ∧ (∀ w ∈ Wall, w.before args s = true) ∧ (∀ w ∈ nestL, va_Nw w s) ∧ va_K D vwCl (tysL cT) s ∧ (∀ C ∈ [RX0, RX1, RX3, RX4], va_AO C s) ∧ (M.1.name = "<init>" → meth.name = "<init>") ∧ d ≤ R.frames ∧ 37 * d ≤ R.locals ∧ mc ≤ R.cells ∧ ms ≤ R.slots ∧ va_X b L xs s s.heap ∧ b < s.heap.size ∧ b < base ∧ base ≤ s.heap.size
def Ch (base b : Nat) (cT : Nat → ClassId) (D : va_G) (hp : AH) (s : State) (H : Heap) (locs : List Loc) : Prop :=
  va_P D vwCl (cw base b cT hp) H ∧ va_S (fun q => base ≤ q) s.heap H locs ∧ H.size = base + hsz hp
def retI : Option Value → Instr
  | none => .return_
  | some (.int _) => .ireturn
  | some (.long _) => .lreturn
  | some (.double _) => .dreturn
  | some (.ref _) => .areturn
  | _ => .nop
/-- the room of a method with d calls open above it -/
def rmD (d k n : Nat) : Room := { frames := d, cells := k, slots := n, locals := 37 * d }
/-- from the point pc on, with these locals and this stack, over the heap hp, the method ends with the answer v and the heap hp' -/
def AR (L : Nat) (xs : Nat → Int32) (d : Nat) (M : MD) (pc : Nat) (ls : LSt) (st : List Value) (hp : AH) (v : Option Value) (hp' : AH) : Prop :=
  hsz hp ≤ hsz hp' ∧ htot hp ≤ htot hp' ∧
  ∀ (p : Program) (l : Launch) (e : Env) (R : Room) (s : State) (m : MethodId) (args : Array Value) (below : List Frame) (meth : Method) (c : Code) (base b : Nat) (D : va_G) (cT : Nat → ClassId) (mc ms : Nat) (Qx : State → Prop),
    Cx L xs M d p R s m args meth c base b D cT mc ms → ls.length = M.2.2.1 →
    (∀ (pc' : Nat) (ls' : Array Slot) (H' : Heap) (locs' : List Loc), Ch base b cT D hp' s H' locs' → decode M.2.1 pc' = .ok (retI v, 1) → W p l e R s m args below meth c H' locs' mc ms Qx (F0 m pc' ls' (v.map (cv base b)).toList)) →
    ∀ (cells slots : Nat) (lsA : Array Slot) (H : Heap) (locs : List Loc), cells + hsz hp' = mc + hsz hp → slots + htot hp' = ms + htot hp → s.heap.size + cells = base + hsz hp → Ch base b cT D hp s H locs → Lh base b ls lsA →
      W p l e R s m args below meth c H locs cells slots Qx (F0 m pc lsA (st.map (cv base b)))
def PreM (L : Nat) (xs : Nat → Int32) (base b : Nat) (D : va_G) (cT : Nat → ClassId) (hp : AH) : State → Prop := fun U =>
  U.heap.size = base + hsz hp ∧ va_P D vwCl (cw base b cT hp) U.heap ∧ va_K D vwCl (tysL cT) U ∧ (∀ w ∈ nestL, va_Nw w U) ∧ (∀ C ∈ [RX0, RX1, RX3, RX4], va_AO C U) ∧ va_X b L xs U U.heap ∧ b < base
def mQ (base b : Nat) (D : va_G) (cT : Nat → ClassId) (v : Option Value) (hp' : AH) : Array Value → State → Outcome → State → Prop := fun _ st oc t =>
  oc = .returned (v.map (cv base b)) ∧ va_P D vwCl (cw base b cT hp') t.heap ∧ t.heap.size = base + hsz hp' ∧ va_F (fun q => base ≤ q) st t
/-- a method: on these arguments, over the heap hp, it ends with v and hp' -/
def AM (L : Nat) (xs : Nat → Int32) (d : Nat) (M : MD) (args : List Value) (hp : AH) (v : Option Value) (hp' : AH) : Prop :=
  hsz hp ≤ hsz hp' ∧ htot hp ≤ htot hp' ∧
  ∀ (l : Launch) (base b : Nat) (D : va_G) (cT : Nat → ClassId),
    Met l M.1 (wsM M) (rmD d (hsz hp' - hsz hp) (htot hp' - htot hp)) (va_Pc (args.map (cv base b)) (PreM L xs base b D cT hp)) (mQ base b D cT v hp') (hsz hp' - hsz hp) (htot hp' - htot hp) (fun q => base ≤ q)
/-- the answer is as the method's type has it -/
def retOk : Option FieldType → Option Value → Prop
  | none, none => True
  | some .int, some (.int _) => True
  | some .boolean, some (.int x) => x = 0 ∨ x = 1
  | some .long, some (.long _) => True
  | some .double, some (.double _) => True
  | some (.object _), some (.ref _) => True
  | _, _ => False
theorem narrow_01 {x : Int32} (h : x = 0 ∨ x = 1) : narrow .boolean (.int x) = .int x := by rcases h with rfl | rfl <;> rfl
theorem fits_01 {x : Int32} (h : x = 0 ∨ x = 1) : fits .boolean (.int x) = true := by rcases h with rfl | rfl <;> rfl
theorem nest_calling {U : State} (g : JFrame) (mk : MethodId) (a : Array Value) (h : ∀ w ∈ nestL, va_Nw w U) : ∀ w ∈ nestL, va_Nw w (U.calling g mk a) := nest_same (u := U) (U := U.calling g mk a) rfl h
theorem PreM.blind {L : Nat} {xs : Nat → Int32} {base b : Nat} {D : va_G} {cT : Nat → ClassId} {hp : AH} {As : List Value} : FrameBlind (va_Pc As (PreM L xs base b D cT hp)) := by
  rintro a U g mk ⟨q0, q1, q2, q3, q4, q5, q6, q7⟩
  exact ⟨q0, q1, q2, va_K.moved (u := U) (U := U.calling g mk a) (Vm.Alike.refl U.vm) q3, nest_calling g mk a q4, fun C hC => (q5 C hC).moved (u := U) (U := U.calling g mk a) (Vm.Alike.refl U.vm), va_X.moved (u := U) (U := U.calling g mk a) (Vm.Alike.refl U.vm) q6, q7⟩
/-- a method out of its body -/
theorem AM.of {L : Nat} {xs : Nat → Int32} {d : Nat} {M : MD} {args : List Value} {ls : LSt} {hp : AH} {v : Option Value} {hp' : AH} (hp0 : plainName M.1.cls = true) (hret : retOk M.2.2.2 v) (hent : ent M.2.2.1 args = ls) (hfit : (ent0 args).length ≤ M.2.2.1) (h : AR L xs d M 0 ls [] hp v hp') : AM L xs d M args hp v hp' := by
  obtain ⟨h1, h2, h3⟩ := h
  refine ⟨h1, h2, fun l base b D cT => ?_⟩
  refine Met.ofW (cc := M.2.1) (maxL := M.2.2.1) (ret := M.2.2.2) hp0 rfl ?_
  intro p e s m args' below meth c s₁ B hml hv'
  obtain ⟨rfl, hz, hP, hK, hN, hO, hX, hbb⟩ := hv'
  have hts := atoms_spec (ws := wsM M) B.pre
  have hown : s.vm.findClass M.1.cls = some m.cls := findClass_of_methodNamed B.named
  have hname := (name_of_methodNamed B.named B.method).1
  have hlocks : meth.locks = false := B.notSynchronized
  have hr := B.returns
  have hx := B.exec
  have hb := B.bytes
  rw [lg_entry_eq]
  have hbl : b < s.heap.size := by omega
  refine h3 p l e _ s m _ below meth c base b D cT (hsz hp' - hsz hp) (htot hp' - htot hp) _ ⟨hx, hb, hml, hown, fun w hw => hts w (List.mem_cons_of_mem _ hw), hN, hK, hO, fun q => by rw [hname, q], Nat.le_refl _, Nat.le_refl _, Nat.le_refl _, Nat.le_refl _, hX, hbl, hbb, by omega⟩ (by rw [← hent]; simp [ent]; omega) ?_ 0 0 _ s.heap [] (by omega) (by omega) (by omega) ⟨hP, va_S.rf, hz⟩ (by rw [← hent]; exact ent_has hfit)
  intro pc' ls' H' locs' hC hd
  have hq : ∀ (v' : Option Value), v' = v.map (cv base b) → ∀ t : State, t.heap = H' → s.WarmedH t.vm → mQ base b D cT v hp' (args.map (cv base b)).toArray s (.returned v') t := by
    rintro v' rfl t ht hW
    exact ⟨rfl, by rw [ht]; exact hC.1, by rw [ht]; exact hC.2.2, hC.2.1.F ht⟩
  have hf : ∀ q ∈ locs', (fun q => base ≤ q) q.base := hC.2.1.2.2
  generalize M.2.2.2 = rt at hret hr
  cases v with
  | none =>
    cases rt with
    | none => exact W.vret hx hb hr (hq _ rfl) hf hd hlocks
    | some ty => cases ty <;> exact absurd hret (fun z => z)
  | some x =>
    cases rt with
    | none => cases x <;> exact absurd hret (fun z => z)
    | some ty =>
      cases ty <;> cases x <;> first
        | exact absurd hret (fun z => z)
        | exact W.iret hx hb hr (hq _ rfl) hf hd hlocks
        | exact W.zret hx hb hr (narrow_01 hret) (hq _ rfl) hf hd hlocks
        | exact W.lret hx hb hr (hq _ rfl) hf hd hlocks
        | exact W.dret hx hb hr (hq _ rfl) hf hd hlocks
        | exact W.aret hx hb hr (Or.inl ⟨_, rfl⟩) (Or.inr ⟨_, rfl⟩) (hq _ rfl) hf hd hlocks
/-- the size of the heap is known: no more cells than were made -/
theorem W_size {p : Program} {l : Launch} {e : Env} {R : Room} {s : State} {m : MethodId} {args : Array Value} {below : List Frame} {meth : Method} {c : Code} {H : Heap} {locs : List Loc} {cells slots : Nat} {Q : State → Prop} {g : JFrame}
    (k : H.size ≤ s.heap.size + cells → W p l e R s m args below meth c H locs cells slots Q g) : W p l e R s m args below meth c H locs cells slots Q g := by
  intro T hT X
  exact k (by rw [← hT]; exact X.heapSize) T hT X
/-- what has been written since H0 and since H -/
theorem va_S.tr {A : Nat → Prop} {H0 H H1 : Heap} {locs locs1 : List Loc} (h : va_S A H0 H locs) (h1 : va_S A H H1 locs1) : va_S A H0 H1 locs1 :=
  ⟨Nat.le_trans h.1 h1.1, fun q a b => (h1.2.1 q (Nat.lt_of_lt_of_le a h.1) b).trans (h.2.1 q a b), h1.2.2⟩
theorem va_S.self {A : Nat → Prop} {H0 H : Heap} {locs : List Loc} (h : va_S A H0 H locs) : va_S A H H locs := ⟨Nat.le_refl _, fun _ _ _ => rfl, h.2.2⟩
end
section
/-! ===== the rules: an instruction each ===== -/
/-- from here on, the method ends with an answer and a heap of which Q holds -/
def WP (L : Nat) (xs : Nat → Int32) (d : Nat) (M : MD) (pc : Nat) (ls : LSt) (st : List Value) (hp : AH) (Q : Option Value → AH → Prop) : Prop := ∃ v hp', AR L xs d M pc ls st hp v hp' ∧ Q v hp'
def WM (L : Nat) (xs : Nat → Int32) (d : Nat) (M : MD) (args : List Value) (hp : AH) (Q : Option Value → AH → Prop) : Prop := ∃ v hp', AM L xs d M args hp v hp' ∧ Q v hp'
theorem WP.mono {L : Nat} {xs : Nat → Int32} {d : Nat} {M : MD} {pc : Nat} {ls : LSt} {st : List Value} {hp : AH} {Q Q' : Option Value → AH → Prop} (h : WP L xs d M pc ls st hp Q) (hq : ∀ v hp', Q v hp' → Q' v hp') : WP L xs d M pc ls st hp Q' := by
  obtain ⟨v, hp', a, b⟩ := h
  exact ⟨v, hp', a, hq _ _ b⟩
theorem WM.mono {L : Nat} {xs : Nat → Int32} {d : Nat} {M : MD} {args : List Value} {hp : AH} {Q Q' : Option Value → AH → Prop} (h : WM L xs d M args hp Q) (hq : ∀ v hp', Q v hp' → Q' v hp') : WM L xs d M args hp Q' := by
  obtain ⟨v, hp', a, b⟩ := h
  exact ⟨v, hp', a, hq _ _ b⟩
theorem WM.of {L : Nat} {xs : Nat → Int32} {d : Nat} {M : MD} {args : List Value} {hp : AH} {Q : Option Value → AH → Prop} (ls : LSt) (hp0 : plainName M.1.cls = true) (hent : ent M.2.2.1 args = ls) (hfit : (ent0 args).length ≤ M.2.2.1) (h : WP L xs d M 0 ls [] hp (fun v hp' => retOk M.2.2.2 v ∧ Q v hp')) : WM L xs d M args hp Q := by
  obtain ⟨v, hp', a, b, c⟩ := h
  exact ⟨v, hp', AM.of hp0 b hent hfit a, c⟩
section RULES
variable {L : Nat} {xs : Nat → Int32} {d : Nat} {M : MD} {pc : Nat} {ls : LSt} {st : List Value} {hp : AH} {Q : Option Value → AH → Prop}
/-- an instruction that doesn't touch the heap -/
theorem WP.pure {pc' : Nat} {ls' : LSt} {st' : List Value} (k : WP L xs d M pc' ls' st' hp Q) (hlen : ls'.length = ls.length)
    (hs : ∀ (p : Program) (l : Launch) (e : Env) (R : Room) (s : State) (m : MethodId) (args : Array Value) (below : List Frame) (meth : Method) (c : Code) (base b : Nat) (H : Heap) (locs : List Loc) (cells slots : Nat) (Qx : State → Prop) (lsA : Array Slot),
      p.tables.exec = Jvm.exec → c.code = M.2.1 → s.vm.findClass M.1.cls = some m.cls → (∀ w ∈ Wall, w.before args s = true) → Lh base b ls lsA →
      (∀ lsB : Array Slot, Lh base b ls' lsB → W p l e R s m args below meth c H locs cells slots Qx (F0 m pc' lsB (st'.map (cv base b)))) →
      W p l e R s m args below meth c H locs cells slots Qx (F0 m pc lsA (st.map (cv base b)))) : WP L xs d M pc ls st hp Q := by
  obtain ⟨v, hp', ⟨h1, h2, h3⟩, q⟩ := k
  refine ⟨v, hp', ⟨h1, h2, ?_⟩, q⟩
  intro p l e R s m args below meth c base b D cT mc ms Qx hc hl hexit cells slots lsA H locs e1 e2 e3 hC hL
  have hc' := hc
  obtain ⟨c1, c2, c3, c4, c5, -⟩ := hc'
  exact hs p l e R s m args below meth c base b H locs cells slots Qx lsA c1 c2 c4 c5 hL fun lsB hB => h3 p l e R s m args below meth c base b D cT mc ms Qx hc (hlen.trans hl) hexit cells slots lsB H locs e1 e2 e3 hC hB
/-- one that keeps the locals -/
theorem WP.keep {pc' : Nat} {st' : List Value} (k : WP L xs d M pc' ls st' hp Q)
    (hs : ∀ (p : Program) (l : Launch) (e : Env) (R : Room) (s : State) (m : MethodId) (args : Array Value) (below : List Frame) (meth : Method) (c : Code) (base b : Nat) (H : Heap) (locs : List Loc) (cells slots : Nat) (Qx : State → Prop) (lsA : Array Slot),
      p.tables.exec = Jvm.exec → c.code = M.2.1 → s.vm.findClass M.1.cls = some m.cls → (∀ w ∈ Wall, w.before args s = true) → Lh base b ls lsA →
      W p l e R s m args below meth c H locs cells slots Qx (F0 m pc' lsA (st'.map (cv base b))) →
      W p l e R s m args below meth c H locs cells slots Qx (F0 m pc lsA (st.map (cv base b)))) : WP L xs d M pc ls st hp Q :=
  WP.pure k rfl fun p l e R s m args below meth c base b H locs cells slots Qx lsA c1 c2 c4 c5 hL kk => hs p l e R s m args below meth c base b H locs cells slots Qx lsA c1 c2 c4 c5 hL (kk lsA hL)
/-- knowing less of the locals -/
theorem WP.less {ls' : LSt} (k : WP L xs d M pc ls' st hp Q) (hlen : ls'.length = ls.length) (h : ∀ (i : Nat) (v : Value), ls'[i]? = some (some v) → ls[i]? = some (some v)) : WP L xs d M pc ls st hp Q :=
  WP.pure k hlen fun p l e R s m args below meth c base b H locs cells slots Qx lsA c1 c2 c4 c5 hL kk => kk lsA ⟨by rw [hlen]; exact hL.1, hL.2.1, fun q hq => by
    obtain ⟨j, w⟩ := q
    obtain ⟨i, v, a1, a2, a3⟩ := lvl_mem.mp hq
    exact hL.2.2 (j, w) (lvl_mem.mpr ⟨i, v, h i v a1, a2, a3⟩)⟩
theorem wp_ret {v : Option Value} (hd : decode M.2.1 pc = .ok (retI v, 1)) (hst : st = v.toList) (h : Q v hp) : WP L xs d M pc ls st hp Q := by
  refine ⟨v, hp, ⟨Nat.le_refl _, Nat.le_refl _, ?_⟩, h⟩
  intro p l e R s m args below meth c base b D cT mc ms Qx hc hl hexit cells slots lsA H locs e1 e2 e3 hC hL
  have h1 : cells = mc := by omega
  have h2 : slots = ms := by omega
  subst h1; subst h2; subst hst
  have hh := hexit pc lsA H locs hC hd
  rwa [show v.toList.map (cv base b) = (v.map (cv base b)).toList by cases v <;> rfl]
theorem wp_iconst {n : Int} {v : Int32} (hd : decode M.2.1 pc = .ok (.iconst n, 1)) (hv : Int32.ofInt n = v) (k : WP L xs d M (pc + 1) ls (.int v :: st) hp Q) : WP L xs d M pc ls st hp Q :=
  WP.keep k fun p l e R s m args below meth c base b H locs cells slots Qx lsA c1 c2 c4 c5 hL kk => lv_iconst c1 c2 hd hv kk
theorem wp_bipush {n : Int} {v : Int32} (hd : decode M.2.1 pc = .ok (.bipush n, 2)) (hv : (Int8.ofInt n).toInt32 = v) (k : WP L xs d M (pc + 2) ls (.int v :: st) hp Q) : WP L xs d M pc ls st hp Q :=
  WP.keep k fun p l e R s m args below meth c base b H locs cells slots Qx lsA c1 c2 c4 c5 hL kk => lv_bipush c1 c2 hd hv kk
theorem wp_sipush {n : Int} {v : Int32} (hd : decode M.2.1 pc = .ok (.sipush n, 3)) (hv : (Int16.ofInt n).toInt32 = v) (k : WP L xs d M (pc + 3) ls (.int v :: st) hp Q) : WP L xs d M pc ls st hp Q :=
  WP.keep k fun p l e R s m args below meth c base b H locs cells slots Qx lsA c1 c2 c4 c5 hL kk => lv_sipush c1 c2 hd hv kk
theorem wp_ldc {idx : Nat} {v : Int32} (hd : decode M.2.1 pc = .ok (.ldc idx, 2)) (hw : .constant M.1.cls idx v ∈ Wall) (k : WP L xs d M (pc + 2) ls (.int v :: st) hp Q) : WP L xs d M pc ls st hp Q :=
  WP.keep k fun p l e R s m args below meth c base b H locs cells slots Qx lsA c1 c2 c4 c5 hL kk => lv_ldc c1 c2 c4 (c5 _ hw) hd kk
theorem wp_ldc2 {idx : Nat} {v : Int64} (hd : decode M.2.1 pc = .ok (.ldc2_w idx, 3)) (hw : .constantLong M.1.cls idx v ∈ Wall) (k : WP L xs d M (pc + 3) ls (.long v :: st) hp Q) : WP L xs d M pc ls st hp Q :=
  WP.keep k fun p l e R s m args below meth c base b H locs cells slots Qx lsA c1 c2 c4 c5 hL kk => lv_ldc2 c1 c2 c4 (c5 _ hw) hd kk
theorem wp_dconst0 (hd : decode M.2.1 pc = .ok (.dconst 0, 1)) (k : WP L xs d M (pc + 1) ls (.double FP.dconst0 :: st) hp Q) : WP L xs d M pc ls st hp Q :=
  WP.keep k fun p l e R s m args below meth c base b H locs cells slots Qx lsA c1 c2 c4 c5 hL kk => lv_dconst0 c1 c2 hd kk
theorem wp_dconst1 (hd : decode M.2.1 pc = .ok (.dconst 1, 1)) (k : WP L xs d M (pc + 1) ls (.double FP.dconst1 :: st) hp Q) : WP L xs d M pc ls st hp Q :=
  WP.keep k fun p l e R s m args below meth c base b H locs cells slots Qx lsA c1 c2 c4 c5 hL kk => lv_dconst1 c1 c2 hd kk
theorem wp_iload_n {n : Fin 4} {i : Nat} {x : Int32} (hd : decode M.2.1 pc = .ok (.iload_n n, 1)) (hi : (n : Nat) = i) (hl : ls[i]? = some (some (.int x))) (k : WP L xs d M (pc + 1) ls (.int x :: st) hp Q) : WP L xs d M pc ls st hp Q :=
  WP.keep k fun p l e R s m args below meth c base b H locs cells slots Qx lsA c1 c2 c4 c5 hL kk => lv_iload_n c1 c2 hd hi (hL.get hl) kk
theorem wp_iload {i : Nat} {x : Int32} (hd : decode M.2.1 pc = .ok (.iload i, 2)) (hl : ls[i]? = some (some (.int x))) (k : WP L xs d M (pc + 2) ls (.int x :: st) hp Q) : WP L xs d M pc ls st hp Q :=
  WP.keep k fun p l e R s m args below meth c base b H locs cells slots Qx lsA c1 c2 c4 c5 hL kk => lv_iload c1 c2 hd (hL.get hl) kk
theorem wp_lload_n {n : Fin 4} {i : Nat} {x : Int64} (hd : decode M.2.1 pc = .ok (.lload_n n, 1)) (hi : (n : Nat) = i) (hl : ls[i]? = some (some (.long x))) (k : WP L xs d M (pc + 1) ls (.long x :: st) hp Q) : WP L xs d M pc ls st hp Q :=
  WP.keep k fun p l e R s m args below meth c base b H locs cells slots Qx lsA c1 c2 c4 c5 hL kk => lv_lload_n c1 c2 hd hi (hL.get hl) kk
theorem wp_lload {i : Nat} {x : Int64} (hd : decode M.2.1 pc = .ok (.lload i, 2)) (hl : ls[i]? = some (some (.long x))) (k : WP L xs d M (pc + 2) ls (.long x :: st) hp Q) : WP L xs d M pc ls st hp Q :=
  WP.keep k fun p l e R s m args below meth c base b H locs cells slots Qx lsA c1 c2 c4 c5 hL kk => lv_lload c1 c2 hd (hL.get hl) kk
theorem wp_aload_n {n : Fin 4} {i x : Nat} (hd : decode M.2.1 pc = .ok (.aload_n n, 1)) (hi : (n : Nat) = i) (hl : ls[i]? = some (some (.ref x))) (k : WP L xs d M (pc + 1) ls (.ref x :: st) hp Q) : WP L xs d M pc ls st hp Q :=
  WP.keep k fun p l e R s m args below meth c base b H locs cells slots Qx lsA c1 c2 c4 c5 hL kk => lv_aload_n c1 c2 hd hi (hL.get hl) kk
theorem wp_aload {i x : Nat} (hd : decode M.2.1 pc = .ok (.aload i, 2)) (hl : ls[i]? = some (some (.ref x))) (k : WP L xs d M (pc + 2) ls (.ref x :: st) hp Q) : WP L xs d M pc ls st hp Q :=
  WP.keep k fun p l e R s m args below meth c base b H locs cells slots Qx lsA c1 c2 c4 c5 hL kk => lv_aload c1 c2 hd (hL.get hl) kk
theorem wp_istore_n {n : Fin 4} {i : Nat} {x : Int32} (hd : decode M.2.1 pc = .ok (.istore_n n, 1)) (hi : (n : Nat) = i) (hn : i < ls.length) (k : WP L xs d M (pc + 1) (ls1 ls i (.int x)) st hp Q) : WP L xs d M pc ls (.int x :: st) hp Q :=
  WP.pure k (ls1_len _ _ _) fun p l e R s m args below meth c base b H locs cells slots Qx lsA c1 c2 c4 c5 hL kk => lv_istore_n c1 c2 hd hi hL hn rfl (fun lsB hB => kk lsB (Lh.st1 hB))
theorem wp_istore {i : Nat} {x : Int32} (hd : decode M.2.1 pc = .ok (.istore i, 2)) (hn : i < ls.length) (k : WP L xs d M (pc + 2) (ls1 ls i (.int x)) st hp Q) : WP L xs d M pc ls (.int x :: st) hp Q :=
  WP.pure k (ls1_len _ _ _) fun p l e R s m args below meth c base b H locs cells slots Qx lsA c1 c2 c4 c5 hL kk => lv_istore c1 c2 hd hL hn rfl (fun lsB hB => kk lsB (Lh.st1 hB))
theorem wp_astore_n {n : Fin 4} {i x : Nat} (hd : decode M.2.1 pc = .ok (.astore_n n, 1)) (hi : (n : Nat) = i) (hn : i < ls.length) (k : WP L xs d M (pc + 1) (ls1 ls i (.ref x)) st hp Q) : WP L xs d M pc ls (.ref x :: st) hp Q :=
  WP.pure k (ls1_len _ _ _) fun p l e R s m args below meth c base b H locs cells slots Qx lsA c1 c2 c4 c5 hL kk => lv_astore_n c1 c2 hd hi hL hn rfl (fun lsB hB => kk lsB (Lh.st1 (v := .ref x) hB))
theorem wp_astore {i x : Nat} (hd : decode M.2.1 pc = .ok (.astore i, 2)) (hn : i < ls.length) (k : WP L xs d M (pc + 2) (ls1 ls i (.ref x)) st hp Q) : WP L xs d M pc ls (.ref x :: st) hp Q :=
  WP.pure k (ls1_len _ _ _) fun p l e R s m args below meth c base b H locs cells slots Qx lsA c1 c2 c4 c5 hL kk => lv_astore c1 c2 hd hL hn rfl (fun lsB hB => kk lsB (Lh.st1 (v := .ref x) hB))
theorem wp_lstore_n {n : Fin 4} {i : Nat} {x : Int64} (hd : decode M.2.1 pc = .ok (.lstore_n n, 1)) (hi : (n : Nat) = i) (hn : i + 1 < ls.length) (k : WP L xs d M (pc + 1) (ls2 ls i (.long x)) st hp Q) : WP L xs d M pc ls (.long x :: st) hp Q :=
  WP.pure k (ls2_len _ _ _) fun p l e R s m args below meth c base b H locs cells slots Qx lsA c1 c2 c4 c5 hL kk => lv_lstore_n c1 c2 hd hi hL hn rfl (fun lsB hB => kk lsB (Lh.st2 hB))
theorem wp_lstore {i : Nat} {x : Int64} (hd : decode M.2.1 pc = .ok (.lstore i, 2)) (hn : i + 1 < ls.length) (k : WP L xs d M (pc + 2) (ls2 ls i (.long x)) st hp Q) : WP L xs d M pc ls (.long x :: st) hp Q :=
  WP.pure k (ls2_len _ _ _) fun p l e R s m args below meth c base b H locs cells slots Qx lsA c1 c2 c4 c5 hL kk => lv_lstore c1 c2 hd hL hn rfl (fun lsB hB => kk lsB (Lh.st2 hB))
theorem wp_iinc {i : Nat} {n : Int} {x v : Int32} (hd : decode M.2.1 pc = .ok (.iinc i n, 3)) (hl : ls[i]? = some (some (.int x))) (hv : x + Int32.ofInt n = v) (k : WP L xs d M (pc + 3) (ls1 ls i (.int v)) st hp Q) : WP L xs d M pc ls st hp Q :=
  WP.pure k (ls1_len _ _ _) fun p l e R s m args below meth c base b H locs cells slots Qx lsA c1 c2 c4 c5 hL kk => by
    have hm : (i, cv base b (.int x)) ∈ lvl base b 0 ls := lvl_mem.mpr ⟨i, _, hl, by omega, rfl⟩
    obtain ⟨kk9, hk9⟩ := List.getElem?_of_mem hm
    exact lv_iinc c1 c2 hd hL hk9 hv (List.getElem?_eq_some_iff.mp hl).1 rfl (fun lsB hB => kk lsB (Lh.st1 hB))
theorem wp_iadd {x y : Int32} (hd : decode M.2.1 pc = .ok (.iadd, 1)) (k : WP L xs d M (pc + 1) ls (.int (x + y) :: st) hp Q) : WP L xs d M pc ls (.int y :: .int x :: st) hp Q :=
  WP.keep k fun p l e R s m args below meth c base b H locs cells slots Qx lsA c1 c2 c4 c5 hL kk => lv_iadd c1 c2 hd kk
theorem wp_isub {x y : Int32} (hd : decode M.2.1 pc = .ok (.isub, 1)) (k : WP L xs d M (pc + 1) ls (.int (x - y) :: st) hp Q) : WP L xs d M pc ls (.int y :: .int x :: st) hp Q :=
  WP.keep k fun p l e R s m args below meth c base b H locs cells slots Qx lsA c1 c2 c4 c5 hL kk => lv_isub c1 c2 hd kk
theorem wp_imul {x y : Int32} (hd : decode M.2.1 pc = .ok (.imul, 1)) (k : WP L xs d M (pc + 1) ls (.int (x * y) :: st) hp Q) : WP L xs d M pc ls (.int y :: .int x :: st) hp Q :=
  WP.keep k fun p l e R s m args below meth c base b H locs cells slots Qx lsA c1 c2 c4 c5 hL kk => lv_imul c1 c2 hd kk
theorem wp_iand {x y : Int32} (hd : decode M.2.1 pc = .ok (.iand, 1)) (k : WP L xs d M (pc + 1) ls (.int (x &&& y) :: st) hp Q) : WP L xs d M pc ls (.int y :: .int x :: st) hp Q :=
  WP.keep k fun p l e R s m args below meth c base b H locs cells slots Qx lsA c1 c2 c4 c5 hL kk => lv_iand c1 c2 hd kk
theorem wp_ior {x y : Int32} (hd : decode M.2.1 pc = .ok (.ior, 1)) (k : WP L xs d M (pc + 1) ls (.int (x ||| y) :: st) hp Q) : WP L xs d M pc ls (.int y :: .int x :: st) hp Q :=
  WP.keep k fun p l e R s m args below meth c base b H locs cells slots Qx lsA c1 c2 c4 c5 hL kk => lv_ior c1 c2 hd kk
theorem wp_ixor {x y : Int32} (hd : decode M.2.1 pc = .ok (.ixor, 1)) (k : WP L xs d M (pc + 1) ls (.int (x ^^^ y) :: st) hp Q) : WP L xs d M pc ls (.int y :: .int x :: st) hp Q :=
  WP.keep k fun p l e R s m args below meth c base b H locs cells slots Qx lsA c1 c2 c4 c5 hL kk => lv_ixor c1 c2 hd kk
theorem wp_irem {x y : Int32} (hd : decode M.2.1 pc = .ok (.irem, 1)) (hne : ¬ y = 0) (k : WP L xs d M (pc + 1) ls (.int (x - x / y * y) :: st) hp Q) : WP L xs d M pc ls (.int y :: .int x :: st) hp Q :=
  WP.keep k fun p l e R s m args below meth c base b H locs cells slots Qx lsA c1 c2 c4 c5 hL kk => lv_irem c1 c2 hd hne kk
theorem wp_idiv {x y : Int32} (hd : decode M.2.1 pc = .ok (.idiv, 1)) (hne : ¬ y = 0) (k : WP L xs d M (pc + 1) ls (.int (x / y) :: st) hp Q) : WP L xs d M pc ls (.int y :: .int x :: st) hp Q :=
  WP.keep k fun p l e R s m args below meth c base b H locs cells slots Qx lsA c1 c2 c4 c5 hL kk => lv_idiv c1 c2 hd hne kk
theorem wp_ishl {x y : Int32} (hd : decode M.2.1 pc = .ok (.ishl, 1)) (k : WP L xs d M (pc + 1) ls (.int (x <<< (y &&& 31)) :: st) hp Q) : WP L xs d M pc ls (.int y :: .int x :: st) hp Q :=
  WP.keep k fun p l e R s m args below meth c base b H locs cells slots Qx lsA c1 c2 c4 c5 hL kk => lv_ishl c1 c2 hd kk
theorem wp_ishr {x y : Int32} (hd : decode M.2.1 pc = .ok (.ishr, 1)) (k : WP L xs d M (pc + 1) ls (.int (x >>> (y &&& 31)) :: st) hp Q) : WP L xs d M pc ls (.int y :: .int x :: st) hp Q :=
  WP.keep k fun p l e R s m args below meth c base b H locs cells slots Qx lsA c1 c2 c4 c5 hL kk => lv_ishr c1 c2 hd kk
theorem wp_i2l {x : Int32} (hd : decode M.2.1 pc = .ok (.i2l, 1)) (k : WP L xs d M (pc + 1) ls (.long x.toInt64 :: st) hp Q) : WP L xs d M pc ls (.int x :: st) hp Q :=
  WP.keep k fun p l e R s m args below meth c base b H locs cells slots Qx lsA c1 c2 c4 c5 hL kk => lv_i2l c1 c2 hd rfl kk
theorem wp_ladd {x y : Int64} (hd : decode M.2.1 pc = .ok (.ladd, 1)) (k : WP L xs d M (pc + 1) ls (.long (x + y) :: st) hp Q) : WP L xs d M pc ls (.long y :: .long x :: st) hp Q :=
  WP.keep k fun p l e R s m args below meth c base b H locs cells slots Qx lsA c1 c2 c4 c5 hL kk => lv_ladd c1 c2 hd kk
theorem wp_lmul {x y : Int64} (hd : decode M.2.1 pc = .ok (.lmul, 1)) (k : WP L xs d M (pc + 1) ls (.long (x * y) :: st) hp Q) : WP L xs d M pc ls (.long y :: .long x :: st) hp Q :=
  WP.keep k fun p l e R s m args below meth c base b H locs cells slots Qx lsA c1 c2 c4 c5 hL kk => lv_lmul c1 c2 hd kk
theorem wp_lcmp {x y : Int64} (hd : decode M.2.1 pc = .ok (.lcmp, 1)) (k : WP L xs d M (pc + 1) ls (.int (lg_cmp x y) :: st) hp Q) : WP L xs d M pc ls (.long y :: .long x :: st) hp Q :=
  WP.keep k fun p l e R s m args below meth c base b H locs cells slots Qx lsA c1 c2 c4 c5 hL kk => W.lcmp c1 c2 hd kk
theorem wp_i2d {x : Int32} (hd : decode M.2.1 pc = .ok (.i2d, 1)) (k : WP L xs d M (pc + 1) ls (.double (FP.i2d x) :: st) hp Q) : WP L xs d M pc ls (.int x :: st) hp Q :=
  WP.keep k fun p l e R s m args below meth c base b H locs cells slots Qx lsA c1 c2 c4 c5 hL kk => lv_i2d c1 c2 hd kk
theorem wp_ddiv {x y : UInt64} (hd : decode M.2.1 pc = .ok (.ddiv, 1)) (hne : vf_n64 (FP.ddiv x y)) (k : WP L xs d M (pc + 1) ls (.double (FP.ddiv x y) :: st) hp Q) : WP L xs d M pc ls (.double y :: .double x :: st) hp Q :=
  WP.keep k fun p l e R s m args below meth c base b H locs cells slots Qx lsA c1 c2 c4 c5 hL kk => lv_ddiv c1 c2 hd hne kk
theorem wp_dcmp {x y : UInt64} {op : CmpOp} (hd : decode M.2.1 pc = .ok (.dcmp op, 1)) (k : WP L xs d M (pc + 1) ls (.int (Op.cmpValue (FP.dcmp x y) op) :: st) hp Q) : WP L xs d M pc ls (.double y :: .double x :: st) hp Q :=
  WP.keep k fun p l e R s m args below meth c base b H locs cells slots Qx lsA c1 c2 c4 c5 hL kk => lv_dcmp c1 c2 hd kk
theorem wp_dup {v : Value} (hd : decode M.2.1 pc = .ok (.dup, 1)) (hv : v.category = 1) (k : WP L xs d M (pc + 1) ls (v :: v :: st) hp Q) : WP L xs d M pc ls (v :: st) hp Q :=
  WP.keep k fun p l e R s m args below meth c base b H locs cells slots Qx lsA c1 c2 c4 c5 hL kk => lv_dup c1 c2 hd (by rw [cv_cat]; exact hv) kk
theorem wp_pop {v : Value} (hd : decode M.2.1 pc = .ok (.pop, 1)) (hv : v.category = 1) (k : WP L xs d M (pc + 1) ls st hp Q) : WP L xs d M pc ls (v :: st) hp Q :=
  WP.keep k fun p l e R s m args below meth c base b H locs cells slots Qx lsA c1 c2 c4 c5 hL kk => lv_pop c1 c2 hd (by rw [cv_cat]; exact hv) kk
theorem wp_dup2 {v w : Value} (hd : decode M.2.1 pc = .ok (.dup2, 1)) (hv : v.category = 1) (hw : w.category = 1) (k : WP L xs d M (pc + 1) ls (v :: w :: v :: w :: st) hp Q) : WP L xs d M pc ls (v :: w :: st) hp Q :=
  WP.keep k fun p l e R s m args below meth c base b H locs cells slots Qx lsA c1 c2 c4 c5 hL kk => lv_dup2_11 c1 c2 hd (by rw [cv_cat]; exact hv) (by rw [cv_cat]; exact hw) kk
theorem wp_goto {off : Int} {tgt : Nat} (hd : decode M.2.1 pc = .ok (.goto off, 3)) (ht : (pc : Int) + off = (tgt : Int)) (k : WP L xs d M tgt ls st hp Q) : WP L xs d M pc ls st hp Q :=
  WP.keep k fun p l e R s m args below meth c base b H locs cells slots Qx lsA c1 c2 c4 c5 hL kk => lv_goto c1 c2 hd ht kk
theorem wp_tabIn {dflt lo hi : Int} {offs : Array Int} {len : Nat} {x : Int32} {off : Int} {tgt : Nat} (hd : decode M.2.1 pc = .ok (.tableswitch dflt lo hi offs, len)) (h1 : ¬ x.toInt < lo) (h2 : ¬ hi < x.toInt) (ho : offs[(x.toInt - lo).toNat]? = some off) (ht : (pc : Int) + off = (tgt : Int)) (k : WP L xs d M tgt ls st hp Q) : WP L xs d M pc ls (.int x :: st) hp Q :=
  WP.keep k fun p l e R s m args below meth c base b H locs cells slots Qx lsA c1 c2 c4 c5 hL kk => lv_tableIn c1 c2 hd h1 h2 ho ht kk
theorem wp_tabOut {dflt lo hi : Int} {offs : Array Int} {len : Nat} {x : Int32} {tgt : Nat} (hd : decode M.2.1 pc = .ok (.tableswitch dflt lo hi offs, len)) (h : x.toInt < lo ∨ hi < x.toInt) (ht : (pc : Int) + dflt = (tgt : Int)) (k : WP L xs d M tgt ls st hp Q) : WP L xs d M pc ls (.int x :: st) hp Q :=
  WP.keep k fun p l e R s m args below meth c base b H locs cells slots Qx lsA c1 c2 c4 c5 hL kk => lv_tableOut c1 c2 hd h ht kk
theorem wp_if_eq {x : Int32} {off : Int} {tgt : Nat} (hd : decode M.2.1 pc = .ok (.ifCond .eq off, 3)) (ht : (pc : Int) + off = (tgt : Int)) (kt : x = 0 → WP L xs d M tgt ls st hp Q) (kf : ¬ (x = 0) → WP L xs d M (pc + 3) ls st hp Q) : WP L xs d M pc ls (.int x :: st) hp Q := by
  by_cases hc : x = 0
  · exact WP.keep (kt hc) fun p l e R s m args below meth c base b H locs cells slots Qx lsA c1 c2 c4 c5 hL kk => lv_if_eq c1 c2 hd ht (fun _ => kk) (fun n => absurd hc n)
  · exact WP.keep (kf hc) fun p l e R s m args below meth c base b H locs cells slots Qx lsA c1 c2 c4 c5 hL kk => lv_if_eq c1 c2 hd ht (fun n => absurd n hc) (fun _ => kk)
theorem wp_icmp_eq {x y : Int32} {off : Int} {tgt : Nat} (hd : decode M.2.1 pc = .ok (.if_icmp .eq off, 3)) (ht : (pc : Int) + off = (tgt : Int)) (kt : x = y → WP L xs d M tgt ls st hp Q) (kf : ¬ (x = y) → WP L xs d M (pc + 3) ls st hp Q) : WP L xs d M pc ls (.int y :: .int x :: st) hp Q := by
  by_cases hc : x = y
  · exact WP.keep (kt hc) fun p l e R s m args below meth c base b H locs cells slots Qx lsA c1 c2 c4 c5 hL kk => lv_icmp_eq c1 c2 hd ht (fun _ => kk) (fun n => absurd hc n)
  · exact WP.keep (kf hc) fun p l e R s m args below meth c base b H locs cells slots Qx lsA c1 c2 c4 c5 hL kk => lv_icmp_eq c1 c2 hd ht (fun n => absurd n hc) (fun _ => kk)
theorem wp_if_ne {x : Int32} {off : Int} {tgt : Nat} (hd : decode M.2.1 pc = .ok (.ifCond .ne off, 3)) (ht : (pc : Int) + off = (tgt : Int)) (kt : ¬ x = 0 → WP L xs d M tgt ls st hp Q) (kf : x = 0 → WP L xs d M (pc + 3) ls st hp Q) : WP L xs d M pc ls (.int x :: st) hp Q := by
  by_cases hc : x = 0
  · exact WP.keep (kf hc) fun p l e R s m args below meth c base b H locs cells slots Qx lsA c1 c2 c4 c5 hL kk => lv_if_ne c1 c2 hd ht (fun n => absurd hc n) (fun _ => kk)
  · exact WP.keep (kt hc) fun p l e R s m args below meth c base b H locs cells slots Qx lsA c1 c2 c4 c5 hL kk => lv_if_ne c1 c2 hd ht (fun _ => kk) (fun n => absurd n hc)
theorem wp_icmp_ne {x y : Int32} {off : Int} {tgt : Nat} (hd : decode M.2.1 pc = .ok (.if_icmp .ne off, 3)) (ht : (pc : Int) + off = (tgt : Int)) (kt : ¬ x = y → WP L xs d M tgt ls st hp Q) (kf : x = y → WP L xs d M (pc + 3) ls st hp Q) : WP L xs d M pc ls (.int y :: .int x :: st) hp Q := by
  by_cases hc : x = y
  · exact WP.keep (kf hc) fun p l e R s m args below meth c base b H locs cells slots Qx lsA c1 c2 c4 c5 hL kk => lv_icmp_ne c1 c2 hd ht (fun n => absurd hc n) (fun _ => kk)
  · exact WP.keep (kt hc) fun p l e R s m args below meth c base b H locs cells slots Qx lsA c1 c2 c4 c5 hL kk => lv_icmp_ne c1 c2 hd ht (fun _ => kk) (fun n => absurd n hc)
theorem wp_if_lt {x : Int32} {off : Int} {tgt : Nat} (hd : decode M.2.1 pc = .ok (.ifCond .lt off, 3)) (ht : (pc : Int) + off = (tgt : Int)) (kt : x < 0 → WP L xs d M tgt ls st hp Q) (kf : ¬ (x < 0) → WP L xs d M (pc + 3) ls st hp Q) : WP L xs d M pc ls (.int x :: st) hp Q := by
  by_cases hc : x < 0
  · exact WP.keep (kt hc) fun p l e R s m args below meth c base b H locs cells slots Qx lsA c1 c2 c4 c5 hL kk => lv_if_lt c1 c2 hd ht (fun _ => kk) (fun n => absurd hc n)
  · exact WP.keep (kf hc) fun p l e R s m args below meth c base b H locs cells slots Qx lsA c1 c2 c4 c5 hL kk => lv_if_lt c1 c2 hd ht (fun n => absurd n hc) (fun _ => kk)
theorem wp_icmp_lt {x y : Int32} {off : Int} {tgt : Nat} (hd : decode M.2.1 pc = .ok (.if_icmp .lt off, 3)) (ht : (pc : Int) + off = (tgt : Int)) (kt : x < y → WP L xs d M tgt ls st hp Q) (kf : ¬ (x < y) → WP L xs d M (pc + 3) ls st hp Q) : WP L xs d M pc ls (.int y :: .int x :: st) hp Q := by
  by_cases hc : x < y
  · exact WP.keep (kt hc) fun p l e R s m args below meth c base b H locs cells slots Qx lsA c1 c2 c4 c5 hL kk => lv_icmp_lt c1 c2 hd ht (fun _ => kk) (fun n => absurd hc n)
  · exact WP.keep (kf hc) fun p l e R s m args below meth c base b H locs cells slots Qx lsA c1 c2 c4 c5 hL kk => lv_icmp_lt c1 c2 hd ht (fun n => absurd n hc) (fun _ => kk)
theorem wp_if_ge {x : Int32} {off : Int} {tgt : Nat} (hd : decode M.2.1 pc = .ok (.ifCond .ge off, 3)) (ht : (pc : Int) + off = (tgt : Int)) (kt : ¬ x < 0 → WP L xs d M tgt ls st hp Q) (kf : x < 0 → WP L xs d M (pc + 3) ls st hp Q) : WP L xs d M pc ls (.int x :: st) hp Q := by
  by_cases hc : x < 0
  · exact WP.keep (kf hc) fun p l e R s m args below meth c base b H locs cells slots Qx lsA c1 c2 c4 c5 hL kk => lv_if_ge c1 c2 hd ht (fun n => absurd hc (Int32.not_lt.mpr n)) (fun _ => kk)
  · exact WP.keep (kt hc) fun p l e R s m args below meth c base b H locs cells slots Qx lsA c1 c2 c4 c5 hL kk => lv_if_ge c1 c2 hd ht (fun _ => kk) (fun n => absurd (Int32.not_lt.mp hc) n)
theorem wp_icmp_ge {x y : Int32} {off : Int} {tgt : Nat} (hd : decode M.2.1 pc = .ok (.if_icmp .ge off, 3)) (ht : (pc : Int) + off = (tgt : Int)) (kt : ¬ x < y → WP L xs d M tgt ls st hp Q) (kf : x < y → WP L xs d M (pc + 3) ls st hp Q) : WP L xs d M pc ls (.int y :: .int x :: st) hp Q := by
  by_cases hc : x < y
  · exact WP.keep (kf hc) fun p l e R s m args below meth c base b H locs cells slots Qx lsA c1 c2 c4 c5 hL kk => lv_icmp_ge c1 c2 hd ht (fun n => absurd hc (Int32.not_lt.mpr n)) (fun _ => kk)
  · exact WP.keep (kt hc) fun p l e R s m args below meth c base b H locs cells slots Qx lsA c1 c2 c4 c5 hL kk => lv_icmp_ge c1 c2 hd ht (fun _ => kk) (fun n => absurd (Int32.not_lt.mp hc) n)
theorem wp_if_gt {x : Int32} {off : Int} {tgt : Nat} (hd : decode M.2.1 pc = .ok (.ifCond .gt off, 3)) (ht : (pc : Int) + off = (tgt : Int)) (kt : 0 < x → WP L xs d M tgt ls st hp Q) (kf : ¬ (0 < x) → WP L xs d M (pc + 3) ls st hp Q) : WP L xs d M pc ls (.int x :: st) hp Q := by
  by_cases hc : 0 < x
  · exact WP.keep (kt hc) fun p l e R s m args below meth c base b H locs cells slots Qx lsA c1 c2 c4 c5 hL kk => lv_if_gt c1 c2 hd ht (fun _ => kk) (fun n => absurd hc n)
  · exact WP.keep (kf hc) fun p l e R s m args below meth c base b H locs cells slots Qx lsA c1 c2 c4 c5 hL kk => lv_if_gt c1 c2 hd ht (fun n => absurd n hc) (fun _ => kk)
theorem wp_icmp_gt {x y : Int32} {off : Int} {tgt : Nat} (hd : decode M.2.1 pc = .ok (.if_icmp .gt off, 3)) (ht : (pc : Int) + off = (tgt : Int)) (kt : y < x → WP L xs d M tgt ls st hp Q) (kf : ¬ (y < x) → WP L xs d M (pc + 3) ls st hp Q) : WP L xs d M pc ls (.int y :: .int x :: st) hp Q := by
  by_cases hc : y < x
  · exact WP.keep (kt hc) fun p l e R s m args below meth c base b H locs cells slots Qx lsA c1 c2 c4 c5 hL kk => lv_icmp_gt c1 c2 hd ht (fun _ => kk) (fun n => absurd hc n)
  · exact WP.keep (kf hc) fun p l e R s m args below meth c base b H locs cells slots Qx lsA c1 c2 c4 c5 hL kk => lv_icmp_gt c1 c2 hd ht (fun n => absurd n hc) (fun _ => kk)
theorem wp_if_le {x : Int32} {off : Int} {tgt : Nat} (hd : decode M.2.1 pc = .ok (.ifCond .le off, 3)) (ht : (pc : Int) + off = (tgt : Int)) (kt : ¬ 0 < x → WP L xs d M tgt ls st hp Q) (kf : 0 < x → WP L xs d M (pc + 3) ls st hp Q) : WP L xs d M pc ls (.int x :: st) hp Q := by
  by_cases hc : 0 < x
  · exact WP.keep (kf hc) fun p l e R s m args below meth c base b H locs cells slots Qx lsA c1 c2 c4 c5 hL kk => lv_if_le c1 c2 hd ht (fun n => absurd hc (Int32.not_lt.mpr n)) (fun _ => kk)
  · exact WP.keep (kt hc) fun p l e R s m args below meth c base b H locs cells slots Qx lsA c1 c2 c4 c5 hL kk => lv_if_le c1 c2 hd ht (fun _ => kk) (fun n => absurd (Int32.not_lt.mp hc) n)
theorem wp_icmp_le {x y : Int32} {off : Int} {tgt : Nat} (hd : decode M.2.1 pc = .ok (.if_icmp .le off, 3)) (ht : (pc : Int) + off = (tgt : Int)) (kt : ¬ y < x → WP L xs d M tgt ls st hp Q) (kf : y < x → WP L xs d M (pc + 3) ls st hp Q) : WP L xs d M pc ls (.int y :: .int x :: st) hp Q := by
  by_cases hc : y < x
  · exact WP.keep (kf hc) fun p l e R s m args below meth c base b H locs cells slots Qx lsA c1 c2 c4 c5 hL kk => lv_icmp_le c1 c2 hd ht (fun n => absurd hc (Int32.not_lt.mpr n)) (fun _ => kk)
  · exact WP.keep (kt hc) fun p l e R s m args below meth c base b H locs cells slots Qx lsA c1 c2 c4 c5 hL kk => lv_icmp_le c1 c2 hd ht (fun _ => kk) (fun n => absurd (Int32.not_lt.mp hc) n)
end RULES
end
section
/-! ===== the rules of the heap ===== -/
theorem cl_facts {ci : Nat} {C : String} {T : u_T} {N : Nat} (h : vwCl[ci]? = some (C, T, N)) : ci < 6 ∧ (∀ w ∈ u_ws C T N, w ∈ Wall) ∧ ∃ ty0 : Nat → FieldType, (∀ k, k < N → parseFieldDescriptor (T k).2.2.1 = some (ty0 k)) ∧ (∀ a, a < N → ∀ b, b < N → a ≠ b → (T a).2.1 ≠ (T b).2.1) := by
  match ci, h with
  | 0, h => cases h; exact ⟨by decide, inW0, tyX0, tyX0_ok, nmX0⟩
  | 1, h => cases h; exact ⟨by decide, inW1, tyX1, tyX1_ok, nmX1⟩
  | 2, h => cases h; exact ⟨by decide, inW2, tyX2, tyX2_ok, nmX2⟩
  | 3, h => cases h; exact ⟨by decide, inW3, tyX3, tyX3_ok, nmX3⟩
  | 4, h => cases h; exact ⟨by decide, inW4, tyX4, tyX4_ok, nmX4⟩
  | 5, h => cases h; exact ⟨by decide, inW5, tyX5, tyX5_ok, nmX5⟩
  | n + 6, h => simp at h
def fty (ci k : Nat) : FieldType := match ci with
  | 0 => tyX0 k
  | 1 => tyX1 k
  | 2 => tyX2 k
  | 3 => tyX3 k
  | 4 => tyX4 k
  | _ => tyX5 k
theorem fty_ok {ci : Nat} {C : String} {T : u_T} {N : Nat} (h : vwCl[ci]? = some (C, T, N)) : ∀ k, k < N → parseFieldDescriptor (T k).2.2.1 = some (fty ci k) := by
  match ci, h with
  | 0, h => cases h; exact tyX0_ok
  | 1, h => cases h; exact tyX1_ok
  | 2, h => cases h; exact tyX2_ok
  | 3, h => cases h; exact tyX3_ok
  | 4, h => cases h; exact tyX4_ok
  | 5, h => cases h; exact tyX5_ok
  | n + 6, h => simp at h
/-- cell i is there, of this kind -/
def okc (hp : AH) (i ci n : Nat) : Prop := 1 ≤ i ∧ i ≤ hsz hp ∧ hk hp i = (ci, n)
def fG (own : String) (idx ci k : Nat) : Prop := ∃ (C : String) (T : u_T) (N : Nat), vwCl[ci]? = some (C, T, N) ∧ k < N ∧ (T k).1 = C ∧ (Cond.fieldLink own idx C (T k).2.1 (T k).2.2.1 ∈ Wall ∨ (own, idx, C, (T k).2.1, (T k).2.2.1) ∈ nestF)
def fP (M : MD) (idx ci k : Nat) : Prop := ∃ (C : String) (T : u_T) (N : Nat), vwCl[ci]? = some (C, T, N) ∧ k < N ∧ (T k).1 = C ∧ ((Cond.fieldLink M.1.cls idx C (T k).2.1 (T k).2.2.1 ∈ Wall ∧ ((T k).2.2.2 = false ∨ ((T k).2.2.2 = true ∧ M.1.name = "<init>" ∧ C = M.1.cls))) ∨ ((M.1.cls, idx, C, (T k).2.1, (T k).2.2.1) ∈ nestF ∧ (T k).2.2.2 = false))
def okf (ci k : Nat) (v : Value) : Prop := ∀ base b : Nat, narrow (fty ci k) (cv base b v) = cv base b v ∧ fits (fty ci k) (cv base b v) = true
theorem nestF_in {q : String × Nat × String × String × String} (h : q ∈ nestF) : Cond.fieldLinkNest q.1 q.2.1 q.2.2.1 q.2.2.2.1 q.2.2.2.2 "IronbridgeCache" ∈ nestL := List.mem_append_left _ (List.mem_map.mpr ⟨q, h, rfl⟩)
theorem nestM_in {q : String × Nat × MethodName} (h : q ∈ nestM) : Cond.methodLinkNest q.1 q.2.1 q.2.2 "IronbridgeCache" ∈ nestL := List.mem_append_right _ (List.mem_map.mpr ⟨q, h, rfl⟩)
theorem nest_use {s : State} {args : Array Value} {w : Cond} (hw : w ∈ nestL) (h : ∀ w ∈ nestL, va_Nw w s) : w.before args s = true := (h w hw).use (nestL_tables w hw)
theorem ce_obj {base b : Nat} {cT : Nat → ClassId} {ci n : Nat} {f : Nat → Value} (h : ci < 6) : ce base b cT (ci, n) f = .inr (ci, (List.range n).map fun k => cv base b (f k)) := if_pos h
theorem ce_int {base b : Nat} {cT : Nat → ClassId} {n : Nat} {f : Nat → Value} : ce base b cT (6, n) f = .inl (cT 0, (n, .inl (fun k => toI (f k)))) := rfl
theorem ce_ref {base b : Nat} {cT : Nat → ClassId} {t n : Nat} {f : Nat → Value} (h : 7 ≤ t) : ce base b cT (t, n) f = .inl (cT (t - 6), (n, .inr (.inr (.inr (.inr (fun k => toR base b (f k))))))) := by
  unfold ce
  rw [if_neg (by show ¬ t < 6; omega), if_neg (by show ¬ t = 6; omega)]
theorem fs_set {base b n k : Nat} {f : Nat → Value} {v : Value} : ((List.range n).map fun l => cv base b (f l)).set k (cv base b v) = (List.range n).map fun l => cv base b (if l = k then v else f l) := by
  apply List.ext_getElem?
  intro j
  by_cases hj : j < n
  · by_cases hjk : j = k
    · subst hjk
      rw [List.getElem?_set_self (by simpa using hj)]
      simp [hj]
    · rw [List.getElem?_set_ne (fun q => hjk q.symm)]
      simp [hj, hjk]
  · rw [List.getElem?_eq_none (by simp; omega), List.getElem?_eq_none (by simp; omega)]
theorem clamp_nI {x : Int32} {k n : Nat} (hx : x = nI k) (hk : k < n) (hn : n < 2 ^ 31) : x.toNatClampNeg = k ∧ vp_in x n := by
  subst hx
  exact ⟨nI_clamp (by omega), vp_in_nI hk hn⟩
section HEAP
variable {L : Nat} {xs : Nat → Int32} {d : Nat} {M : MD} {pc : Nat} {ls : LSt} {st : List Value} {hp : AH} {Q : Option Value → AH → Prop}
theorem wp_get {i ci n k idx : Nat} (hd : decode M.2.1 pc = .ok (.getfield idx, 3)) (ho : okc hp i ci n) (hf : fG M.1.cls idx ci k) (hn : k < n) (kk : WP L xs d M (pc + 3) ls (hv hp i k :: st) hp Q) : WP L xs d M pc ls (.ref i :: st) hp Q := by
  obtain ⟨v', hp', ⟨h1, h2, h3⟩, q⟩ := kk
  refine ⟨v', hp', ⟨h1, h2, ?_⟩, q⟩
  intro p l e R s m args below meth c base b D cT mc ms Qx hc hl hexit cells slots lsA H locs e1 e2 e3 hC hL
  obtain ⟨c1, c2, c3, c4, c5, c6, c7, -⟩ := id hc
  obtain ⟨a1, a2, a3⟩ := ho
  obtain ⟨j, rfl⟩ : ∃ j, i = j + 1 := ⟨i - 1, by omega⟩
  obtain ⟨C, T, N, f1, f2, f3, f4⟩ := hf
  obtain ⟨g0, g1, -⟩ := cl_facts f1
  have hcell : (cw base b cT hp)[j]? = some (base + j, .inr (ci, (List.range n).map fun k => cv base b (hv hp (j + 1) k))) := by rw [cw_get (by omega), a3, ce_obj g0]
  have kw := h3 p l e R s m args below meth c base b D cT mc ms Qx hc hl hexit cells slots lsA H locs e1 e2 e3 hC hL
  have hsame : ∀ x, s.fieldFound? (T k).1 (T k).2.1 (T k).2.2.1 = some x → s.fieldFound? C (T k).2.1 (T k).2.2.1 = some x := fun x h => by rwa [f3] at h
  have hv' : ((List.range n).map fun k => cv base b (hv hp (j + 1) k))[k]? = some (cv base b (hv hp (j + 1) k)) := by simp [hn]
  rcases f4 with f4 | f4
  · exact va_get c1 c2 c5 g1 c4 c7 hC.1 j hcell f1 k f2 (c5 _ f4) hsame hv' hd kw
  · exact va_getN c1 c2 c5 g1 c4 c7 hC.1 j hcell f1 k f2 (nest_use (nestF_in f4) c6) hsame hv' hd kw
theorem wp_put {i ci n k idx : Nat} {v : Value} (hd : decode M.2.1 pc = .ok (.putfield idx, 3)) (ho : okc hp i ci n) (hf : fP M idx ci k) (hvv : okf ci k v) (hn : k < n) (kk : WP L xs d M (pc + 3) ls st (hset hp i k v) Q) : WP L xs d M pc ls (v :: .ref i :: st) hp Q := by
  obtain ⟨v', hp', ⟨h1, h2, h3⟩, q⟩ := kk
  refine ⟨v', hp', ⟨h1, h2, ?_⟩, q⟩
  intro p l e R s m args below meth c base b D cT mc ms Qx hc hl hexit cells slots lsA H locs e1 e2 e3 hC hL
  obtain ⟨c1, c2, c3, c4, c5, c6, c7, c8, c9, -⟩ := id hc
  obtain ⟨hP, hS, hz⟩ := hC
  obtain ⟨a1, a2, a3⟩ := ho
  obtain ⟨j, rfl⟩ : ∃ j, i = j + 1 := ⟨i - 1, by omega⟩
  obtain ⟨C, T, N, f1, f2, f3, f4⟩ := hf
  obtain ⟨g0, g1, ty0, g2, g3⟩ := cl_facts f1
  have hcell : (cw base b cT hp)[j]? = some (base + j, .inr (ci, (List.range n).map fun k => cv base b (hv hp (j + 1) k))) := by rw [cw_get (by omega), a3, ce_obj g0]
  have fin : ∀ (H1 : Heap) (locs1 : List Loc), va_P D vwCl ((cw base b cT hp).set j (base + j, .inr (ci, ((List.range n).map fun k => cv base b (hv hp (j + 1) k)).set k (cv base b v)))) H1 → va_D (fun q => base ≤ q) ((cw base b cT hp).set j (base + j, .inr (ci, ((List.range n).map fun k => cv base b (hv hp (j + 1) k)).set k (cv base b v)))) → va_S (fun q => base ≤ q) H H1 locs1 → W p l e R s m args below meth c H1 locs1 cells slots Qx (F0 m (pc + 3) lsA (st.map (cv base b))) := by
    intro H1 locs1 p1 _ p3
    refine W_size fun hsize => ?_
    refine h3 p l e R s m args below meth c base b D cT mc ms Qx hc hl hexit cells slots lsA H1 locs1 e1 e2 e3 ⟨?_, hS.tr p3, ?_⟩ hL
    · rw [cw_upd (i := j) (hp := hp) (hp' := hset hp (j + 1) k v) rfl (by omega) ?_ ?_] at p1
      · exact p1
      · show ce base b cT (hk hp (j + 1)) (fun l => if j + 1 = j + 1 ∧ l = k then v else hv hp (j + 1) l) = _
        rw [a3, ce_obj g0, fs_set]
        simp only [true_and]
      · intro j' hj'
        refine ⟨rfl, ?_⟩
        funext l
        show (if j' = j + 1 ∧ l = k then v else hv hp j' l) = _
        rw [if_neg (fun z => hj' z.1)]
    · have h9 := p3.1
      have h8 : hsz (hset hp (j + 1) k v) = hsz hp := rfl
      omega
  have hsame : ∀ x, s.fieldFound? (T k).1 (T k).2.1 (T k).2.2.1 = some x → s.fieldFound? C (T k).2.1 (T k).2.2.1 = some x := fun x h => by rwa [f3] at h
  have hlen : k < ((List.range n).map fun k => cv base b (hv hp (j + 1) k)).length := by simpa using hn
  have hD := cw_D base b cT hp
  have hpar := fty_ok f1 k f2
  rcases f4 with ⟨k1, k2 | ⟨k2, k3, k4⟩⟩ | ⟨k1, k2⟩
  · exact va_put c1 c2 c5 g1 ty0 g2 g3 c4 c7 hP hD hS.self j hcell f1 k f2 (c5 _ k1) hsame k2 hpar (hvv base b).1 (hvv base b).2 hlen hd fin
  · exact va_putF c1 c2 c5 g1 ty0 g2 g3 c4 c7 hP hD hS.self j hcell f1 k f2 (c5 _ k1) hsame k2 (c9 k3) (f3.trans k4) hpar (hvv base b).1 (hvv base b).2 hlen hd fin
  · exact va_putN c1 c2 c5 g1 ty0 g2 g3 c4 c7 hP hD hS.self j hcell f1 k f2 (nest_use (nestF_in k1) c6) hsame k2 hpar (hvv base b).1 (hvv base b).2 hlen hd fin
theorem wp_iald {i n k : Nat} {x : Int32} (hd : decode M.2.1 pc = .ok (.iaload, 1)) (ho : okc hp i 6 n) (hx : x = nI k) (hkn : k < n) (hn : n < 2 ^ 31) (kk : WP L xs d M (pc + 1) ls (.int (toI (hv hp i k)) :: st) hp Q) : WP L xs d M pc ls (.int x :: .ref i :: st) hp Q := by
  obtain ⟨v', hp', ⟨h1, h2, h3⟩, q⟩ := kk
  refine ⟨v', hp', ⟨h1, h2, ?_⟩, q⟩
  intro p l e R s m args below meth c base b D cT mc ms Qx hc hl hexit cells slots lsA H locs e1 e2 e3 hC hL
  obtain ⟨c1, c2, c3, c4, c5, c6, c7, -⟩ := id hc
  obtain ⟨a1, a2, a3⟩ := ho
  obtain ⟨j, rfl⟩ : ∃ j, i = j + 1 := ⟨i - 1, by omega⟩
  obtain ⟨x1, x2⟩ := clamp_nI hx hkn hn
  have hcell : (cw base b cT hp)[j]? = some (base + j, .inl (cT 0, n, .inl fun k => toI (hv hp (j + 1) k))) := by rw [cw_get (by omega), a3, ce_int]
  have kw := h3 p l e R s m args below meth c base b D cT mc ms Qx hc hl hexit cells slots lsA H locs e1 e2 e3 hC hL
  subst x1
  exact va_iald c1 c2 c7 hC.1 j 0 hcell rfl x2 hd kw
theorem wp_iast {i n k : Nat} {x y : Int32} (hd : decode M.2.1 pc = .ok (.iastore, 1)) (ho : okc hp i 6 n) (hx : x = nI k) (hkn : k < n) (hn : n < 2 ^ 31) (kk : WP L xs d M (pc + 1) ls st (hset hp i k (.int y)) Q) : WP L xs d M pc ls (.int y :: .int x :: .ref i :: st) hp Q := by
  obtain ⟨v', hp', ⟨h1, h2, h3⟩, q⟩ := kk
  refine ⟨v', hp', ⟨h1, h2, ?_⟩, q⟩
  intro p l e R s m args below meth c base b D cT mc ms Qx hc hl hexit cells slots lsA H locs e1 e2 e3 hC hL
  obtain ⟨c1, c2, c3, c4, c5, c6, c7, -⟩ := id hc
  obtain ⟨hP, hS, hz⟩ := hC
  obtain ⟨a1, a2, a3⟩ := ho
  obtain ⟨j, rfl⟩ : ∃ j, i = j + 1 := ⟨i - 1, by omega⟩
  obtain ⟨x1, x2⟩ := clamp_nI hx hkn hn
  have hcell : (cw base b cT hp)[j]? = some (base + j, .inl (cT 0, n, .inl fun k => toI (hv hp (j + 1) k))) := by rw [cw_get (by omega), a3, ce_int]
  subst x1
  refine va_iast c1 c2 c7 hP (cw_D base b cT hp) hS.self j 0 hcell rfl x2 hd fun H1 locs1 p1 _ p3 => ?_
  refine W_size fun hsize => ?_
  refine h3 p l e R s m args below meth c base b D cT mc ms Qx hc hl hexit cells slots lsA H1 locs1 e1 e2 e3 ⟨?_, hS.tr p3, ?_⟩ hL
  · rw [cw_upd (i := j) (hp := hp) (hp' := hset hp (j + 1) x.toNatClampNeg (.int y)) rfl (by omega) ?_ ?_] at p1
    · exact p1
    · show ce base b cT (hk hp (j + 1)) (fun l => if j + 1 = j + 1 ∧ l = x.toNatClampNeg then .int y else hv hp (j + 1) l) = _
      rw [a3, ce_int]
      congr 4
      funext l
      by_cases hlx : l = x.toNatClampNeg
      · simp [upd, hlx, toI]
      · simp [upd, hlx]
    · intro j' hj'
      refine ⟨rfl, ?_⟩
      funext l
      show (if j' = j + 1 ∧ l = x.toNatClampNeg then Value.int y else hv hp j' l) = _
      rw [if_neg (fun z => hj' z.1)]
  · have h9 := p3.1
    have h8 : hsz (hset hp (j + 1) x.toNatClampNeg (.int y)) = hsz hp := rfl
    omega
/-- arrays of references: kind, class of the parts -/
def arC : Nat → Option (Nat × String)
  | 7 => some (0, RX0)
  | 8 => some (1, RX1)
  | 9 => some (3, RX3)
  | 10 => some (4, RX4)
  | _ => none
theorem arC_facts {t ci : Nat} {C : String} (h : arC t = some (ci, C)) (cT : Nat → ClassId) : 7 ≤ t ∧ (tysL cT)[t - 6]? = some (cT (t - 6), .object C) ∧ C ∈ [RX0, RX1, RX3, RX4] ∧ ∃ T N, vwCl[ci]? = some (C, T, N) := by
  match t, h with
  | 7, h => cases h; exact ⟨by decide, rfl, by simp, _, _, rfl⟩
  | 8, h => cases h; exact ⟨by decide, rfl, by simp, _, _, rfl⟩
  | 9, h => cases h; exact ⟨by decide, rfl, by simp, _, _, rfl⟩
  | 10, h => cases h; exact ⟨by decide, rfl, by simp, _, _, rfl⟩
  | 0, h => cases h
  | 1, h => cases h
  | 2, h => cases h
  | 3, h => cases h
  | 4, h => cases h
  | 5, h => cases h
  | 6, h => cases h
  | n + 11, h => cases h
theorem cv_rfv (base b : Nat) (v : Value) : va_rf (toR base b v) = cv base b (rfv v) := by cases v <;> rfl
theorem wp_aald {i n k t ci : Nat} {C : String} {x : Int32} (hd : decode M.2.1 pc = .ok (.aaload, 1)) (ho : okc hp i t n) (ht : arC t = some (ci, C)) (hx : x = nI k) (hkn : k < n) (hn : n < 2 ^ 31) (kk : WP L xs d M (pc + 1) ls (rfv (hv hp i k) :: st) hp Q) : WP L xs d M pc ls (.int x :: .ref i :: st) hp Q := by
  obtain ⟨v', hp', ⟨h1, h2, h3⟩, q⟩ := kk
  refine ⟨v', hp', ⟨h1, h2, ?_⟩, q⟩
  intro p l e R s m args below meth c base b D cT mc ms Qx hc hl hexit cells slots lsA H locs e1 e2 e3 hC hL
  obtain ⟨c1, c2, c3, c4, c5, c6, c7, -⟩ := id hc
  obtain ⟨a1, a2, a3⟩ := ho
  obtain ⟨j, rfl⟩ : ∃ j, i = j + 1 := ⟨i - 1, by omega⟩
  obtain ⟨x1, x2⟩ := clamp_nI hx hkn hn
  obtain ⟨t1, t2, -⟩ := arC_facts ht cT
  have hcell : (cw base b cT hp)[j]? = some (base + j, .inl (cT (t - 6), n, .inr (.inr (.inr (.inr fun k => toR base b (hv hp (j + 1) k)))))) := by rw [cw_get (by omega), a3, ce_ref t1]
  have kw := h3 p l e R s m args below meth c base b D cT mc ms Qx hc hl hexit cells slots lsA H locs e1 e2 e3 hC hL
  subst x1
  rw [List.map_cons, ← cv_rfv] at kw
  exact va_aldq c1 c2 c7 hC.1 j (t - 6) hcell t2 x2 hd kw
theorem wp_aast {i n k t ci n2 y : Nat} {C : String} {x : Int32} (hd : decode M.2.1 pc = .ok (.aastore, 1)) (ho : okc hp i t n) (ht : arC t = some (ci, C)) (hy : okc hp y ci n2) (hx : x = nI k) (hkn : k < n) (hn : n < 2 ^ 31) (kk : WP L xs d M (pc + 1) ls st (hset hp i k (.ref y)) Q) : WP L xs d M pc ls (.ref y :: .int x :: .ref i :: st) hp Q := by
  obtain ⟨v', hp', ⟨h1, h2, h3⟩, q⟩ := kk
  refine ⟨v', hp', ⟨h1, h2, ?_⟩, q⟩
  intro p l e R s m args below meth c base b D cT mc ms Qx hc hl hexit cells slots lsA H locs e1 e2 e3 hC hL
  obtain ⟨c1, c2, c3, c4, c5, c6, c7, -⟩ := id hc
  obtain ⟨hP, hS, hz⟩ := hC
  obtain ⟨a1, a2, a3⟩ := ho
  obtain ⟨y1, y2, y3⟩ := hy
  obtain ⟨j, rfl⟩ : ∃ j, i = j + 1 := ⟨i - 1, by omega⟩
  obtain ⟨jy, rfl⟩ : ∃ j, y = j + 1 := ⟨y - 1, by omega⟩
  obtain ⟨x1, x2⟩ := clamp_nI hx hkn hn
  obtain ⟨t1, t2, t3, T, N, t4⟩ := arC_facts ht cT
  obtain ⟨g0, -⟩ := cl_facts t4
  have hcell : (cw base b cT hp)[j]? = some (base + j, .inl (cT (t - 6), n, .inr (.inr (.inr (.inr fun k => toR base b (hv hp (j + 1) k)))))) := by rw [cw_get (by omega), a3, ce_ref t1]
  have hcy : (cw base b cT hp)[jy]? = some (base + jy, .inr (ci, (List.range n2).map fun k => cv base b (hv hp (jy + 1) k))) := by rw [cw_get (by omega), y3, ce_obj g0]
  subst x1
  refine va_astq c1 c2 c7 hP (cw_D base b cT hp) hS.self j (t - 6) jy ci (r := (C, T, N)) hcell t2 hcy t4 x2 hd fun H1 locs1 p1 _ p3 => ?_
  refine W_size fun hsize => ?_
  refine h3 p l e R s m args below meth c base b D cT mc ms Qx hc hl hexit cells slots lsA H1 locs1 e1 e2 e3 ⟨?_, hS.tr p3, ?_⟩ hL
  · rw [cw_upd (i := j) (hp := hp) (hp' := hset hp (j + 1) x.toNatClampNeg (.ref (jy + 1))) rfl (by omega) ?_ ?_] at p1
    · exact p1
    · show ce base b cT (hk hp (j + 1)) (fun l => if j + 1 = j + 1 ∧ l = x.toNatClampNeg then .ref (jy + 1) else hv hp (j + 1) l) = _
      rw [a3, ce_ref t1]
      congr 7
      funext l
      by_cases hlx : l = x.toNatClampNeg
      · simp [va_up, hlx, toR, ca]
      · simp [va_up, hlx]
    · intro j' hj'
      refine ⟨rfl, ?_⟩
      funext l
      show (if j' = j + 1 ∧ l = x.toNatClampNeg then Value.ref (jy + 1) else hv hp j' l) = _
      rw [if_neg (fun z => hj' z.1)]
  · have h9 := p3.1
    have h8 : hsz (hset hp (j + 1) x.toNatClampNeg (.ref (jy + 1))) = hsz hp := rfl
    omega
theorem wp_alenI {i n : Nat} (hd : decode M.2.1 pc = .ok (.arraylength, 1)) (ho : okc hp i 6 n) (kk : WP L xs d M (pc + 1) ls (.int (nI n) :: st) hp Q) : WP L xs d M pc ls (.ref i :: st) hp Q := by
  obtain ⟨v', hp', ⟨h1, h2, h3⟩, q⟩ := kk
  refine ⟨v', hp', ⟨h1, h2, ?_⟩, q⟩
  intro p l e R s m args below meth c base b D cT mc ms Qx hc hl hexit cells slots lsA H locs e1 e2 e3 hC hL
  obtain ⟨c1, c2, c3, c4, c5, c6, c7, -⟩ := id hc
  obtain ⟨a1, a2, a3⟩ := ho
  obtain ⟨j, rfl⟩ : ∃ j, i = j + 1 := ⟨i - 1, by omega⟩
  have hcell : (cw base b cT hp)[j]? = some (base + j, .inl (cT 0, n, .inl fun k => toI (hv hp (j + 1) k))) := by rw [cw_get (by omega), a3, ce_int]
  have kw := h3 p l e R s m args below meth c base b D cT mc ms Qx hc hl hexit cells slots lsA H locs e1 e2 e3 hC hL
  exact va_alen c1 c2 c7 hC.1 j 0 hcell rfl rfl hd kw
theorem wp_sld {k : Nat} {x : Int32} (hd : decode M.2.1 pc = .ok (.iaload, 1)) (hx : x = nI k) (hkn : k < L) (hn : L < 2 ^ 31) (kk : WP L xs d M (pc + 1) ls (.int (xs k) :: st) hp Q) : WP L xs d M pc ls (.int x :: .ref 0 :: st) hp Q := by
  obtain ⟨v', hp', ⟨h1, h2, h3⟩, q⟩ := kk
  refine ⟨v', hp', ⟨h1, h2, ?_⟩, q⟩
  intro p l e R s m args below meth c base b D cT mc ms Qx hc hl hexit cells slots lsA H locs e1 e2 e3 hC hL
  obtain ⟨c1, c2, c3, c4, c5, c6, c7, c8, c9, c10, c11, c12, c13, c14, c15, c16, c17⟩ := id hc
  obtain ⟨x1, x2⟩ := clamp_nI hx hkn hn
  have kw := h3 p l e R s m args below meth c base b D cT mc ms Qx hc hl hexit cells slots lsA H locs e1 e2 e3 hC hL
  subst x1
  exact va_sld c1 c2 c14 c15 (A := fun q => base ≤ q) (Nat.not_le.mpr c16) hC.2.1 x2 hd kw
theorem wp_slen (hd : decode M.2.1 pc = .ok (.arraylength, 1)) (kk : WP L xs d M (pc + 1) ls (.int (nI L) :: st) hp Q) : WP L xs d M pc ls (.ref 0 :: st) hp Q := by
  obtain ⟨v', hp', ⟨h1, h2, h3⟩, q⟩ := kk
  refine ⟨v', hp', ⟨h1, h2, ?_⟩, q⟩
  intro p l e R s m args below meth c base b D cT mc ms Qx hc hl hexit cells slots lsA H locs e1 e2 e3 hC hL
  obtain ⟨c1, c2, c3, c4, c5, c6, c7, c8, c9, c10, c11, c12, c13, c14, c15, c16, c17⟩ := id hc
  have kw := h3 p l e R s m args below meth c base b D cT mc ms Qx hc hl hexit cells slots lsA H locs e1 e2 e3 hC hL
  exact va_slen c1 c2 c14 c15 (A := fun q => base ≤ q) (Nat.not_le.mpr c16) hC.2.1 hd kw
end HEAP
end
section
/-! ===== new cells, calls ===== -/
/-- the new cell stands right behind the old ones -/
theorem new_at {base b : Nat} {cT : Nat → ClassId} {D : va_G} {hp : AH} {e : va_E} {q hs : Nat} {H1 : Heap} (hz : H1.size ≤ base + hsz hp + 1) (p1 : va_P D vwCl (cw base b cT hp ++ [(q, e)]) H1) (p2 : va_D (fun q => base ≤ q) (cw base b cT hp ++ [(q, e)])) (hs0 : hs = hsz hp) : q = base + hs ∧ H1.size = base + hs + 1 := by
  subst hs0
  have hlast : (cw base b cT hp ++ [(q, e)])[hsz hp]? = some (q, e) := by
    rw [List.getElem?_append_right (by rw [cw_len]; exact Nat.le_refl _), cw_len, Nat.sub_self]; rfl
  have h1 : q < H1.size := (p1 _ _ hlast).lt
  have h2 : base ≤ q := p2.2 _ _ hlast
  have h3 : ¬ q < base + hsz hp := by
    intro hq
    obtain ⟨i, rfl⟩ : ∃ i, q = base + i := ⟨q - base, by omega⟩
    have hi : i < hsz hp := by omega
    have hx : (cw base b cT hp ++ [(base + i, e)])[i]? = some (base + i, ce base b cT (hk hp (i + 1)) (hv hp (i + 1))) := by
      rw [List.getElem?_append_left (by rw [cw_len]; exact hi), cw_get hi]
    have := p2.1 i (hsz hp) _ _ hx hlast rfl
    omega
  omega
/-- a class whose objects are made here -/
def nC (own : String) (idx ci N : Nat) : Prop := ∃ (C : String) (T : u_T), vwCl[ci]? = some (C, T, N) ∧ .classLink own idx C ∈ Wall ∧ .instantiable C N ∈ Wall ∧ .initialized C ∈ Wall
def zf (ci k : Nat) : Value := defaultValue (fty ci k)
theorem cv_def (base b : Nat) (ty : FieldType) : cv base b (defaultValue ty) = defaultValue ty := by cases ty <;> rfl
section NEWS
variable {L : Nat} {xs : Nat → Int32} {d : Nat} {M : MD} {pc : Nat} {ls : LSt} {st : List Value} {hp : AH} {Q : Option Value → AH → Prop}
theorem wp_new {ci N idx : Nat} (hd : decode M.2.1 pc = .ok (.new idx, 3)) (hn : nC M.1.cls idx ci N) (kk : WP L xs d M (pc + 3) ls (.ref (hsz hp + 1) :: st) (hnew hp ci N (zf ci)) Q) : WP L xs d M pc ls st hp Q := by
  obtain ⟨v', hp', ⟨h1, h2, h3⟩, q⟩ := kk
  have h1' : hsz hp + 1 ≤ hsz hp' := h1
  have h2' : htot hp + N ≤ htot hp' := h2
  refine ⟨v', hp', ⟨by omega, by omega, ?_⟩, q⟩
  intro p l e R s m args below meth c base b D cT mc ms Qx hc hl hexit cells slots lsA H locs e1 e2 e3 hC hL
  obtain ⟨c1, c2, c3, c4, c5, c6, c7, c8, c9, c10, c11, c12, c13, c14, c15, c16, c17⟩ := id hc
  obtain ⟨hP, hS, hz⟩ := hC
  obtain ⟨C, T, f1, f2, f3, f4⟩ := hn
  obtain ⟨g0, g1, -⟩ := cl_facts f1
  refine va_new c1 c2 c5 g1 (fty ci) (fty_ok f1) c4 (c5 _ f2) (c5 _ f3) (c5 _ f4) c7 hP (cw_D base b cT hp) hS.self (fun q hq => by show base ≤ q; omega) f1 (fs := (List.range N).map fun k => cv base b (zf ci k)) ?_ (by omega) (by omega) hd fun q H1 p1 p2 p3 => ?_
  · intro j hj
    simp [vp_V, hj, zf, cv_def]
  · refine W_size fun hsize => ?_
    obtain ⟨rfl, hq2⟩ := new_at (hs := hsz hp) (by omega) p1 p2 rfl
    rw [cw_new (t := ci) (n := N) (z := zf ci) (ce_obj g0)] at p1
    refine h3 p l e R s m args below meth c base b D cT mc ms Qx hc hl hexit (cells + 1) (slots + N) lsA H1 locs ?_ ?_ ?_ ⟨p1, hS.tr p3, hq2⟩ hL
    · show cells + 1 + hsz hp' = mc + (hsz hp + 1); omega
    · show slots + N + htot hp' = ms + (htot hp + N); omega
    · show s.heap.size + (cells + 1) = base + (hsz hp + 1); omega
theorem wp_newI {n : Nat} {x : Int32} (hd : decode M.2.1 pc = .ok (.newarray .int, 2)) (hw : .arrayClass .int ∈ Wall) (hx : x = nI n) (hn : n ≤ 134217728) (kk : WP L xs d M (pc + 2) ls (.ref (hsz hp + 1) :: st) (hnew hp 6 n (fun _ => .int 0)) Q) : WP L xs d M pc ls (.int x :: st) hp Q := by
  obtain ⟨v', hp', ⟨h1, h2, h3⟩, q⟩ := kk
  have h1' : hsz hp + 1 ≤ hsz hp' := h1
  have h2' : htot hp + n ≤ htot hp' := h2
  refine ⟨v', hp', ⟨by omega, by omega, ?_⟩, q⟩
  intro p l e R s m args below meth c base b D cT mc ms Qx hc hl hexit cells slots lsA H locs e1 e2 e3 hC hL
  obtain ⟨c1, c2, c3, c4, c5, c6, c7, c8, c9, c10, c11, c12, c13, c14, c15, c16, c17⟩ := id hc
  obtain ⟨hP, hS, hz⟩ := hC
  subst hx
  have hcl : (nI n).toNatClampNeg = n := nI_clamp (by omega)
  refine va_newa (atype := .int) c1 c2 (c5 _ hw) (ty := .int) rfl c7 hP (cw_D base b cT hp) hS.self (fun q hq => by show base ≤ q; omega) (a0 := (n, .inl (fun _ => 0))) (N' := n) (fun cA => rfl) (nI_pos (by omega)) hcl (by show n * 4 ≤ 536870912; omega) (by omega) (by omega) hd fun q cA H1 pk p1 p2 p3 => ?_
  have hcA : cA = cT 0 := by
    have a1 := (pk.2 (tysL cT).length _ (by rw [List.getElem?_append_right (Nat.le_refl _), Nat.sub_self]; rfl)).2
    have a2 := (c7.2 0 _ rfl).2
    exact Option.some.inj (a1.symm.trans a2)
  subst hcA
  refine W_size fun hsize => ?_
  obtain ⟨rfl, hq2⟩ := new_at (hs := hsz hp) (by omega) p1 p2 rfl
  rw [cw_new (base := base) (b := b) (cT := cT) (hp := hp) (t := 6) (n := n) (z := fun _ => .int 0) (e := .inl (cT 0, n, .inl fun _ => 0)) rfl] at p1
  refine h3 p l e R s m args below meth c base b D cT mc ms Qx hc hl hexit (cells + 1) (slots + n) lsA H1 locs ?_ ?_ ?_ ⟨p1, hS.tr p3, hq2⟩ hL
  · show cells + 1 + hsz hp' = mc + (hsz hp + 1); omega
  · show slots + n + htot hp' = ms + (htot hp + n); omega
  · show s.heap.size + (cells + 1) = base + (hsz hp + 1); omega
theorem wp_newR {n t ci idx : Nat} {C : String} {x : Int32} (hd : decode M.2.1 pc = .ok (.anewarray idx, 3)) (ht : arC t = some (ci, C)) (hw : .classLink M.1.cls idx C ∈ Wall) (hx : x = nI n) (hn : n ≤ 134217728) (kk : WP L xs d M (pc + 3) ls (.ref (hsz hp + 1) :: st) (hnew hp t n (fun _ => .null)) Q) : WP L xs d M pc ls (.int x :: st) hp Q := by
  obtain ⟨v', hp', ⟨h1, h2, h3⟩, q⟩ := kk
  have h1' : hsz hp + 1 ≤ hsz hp' := h1
  have h2' : htot hp + n ≤ htot hp' := h2
  refine ⟨v', hp', ⟨by omega, by omega, ?_⟩, q⟩
  intro p l e R s m args below meth c base b D cT mc ms Qx hc hl hexit cells slots lsA H locs e1 e2 e3 hC hL
  obtain ⟨c1, c2, c3, c4, c5, c6, c7, c8, c9, c10, c11, c12, c13, c14, c15, c16, c17⟩ := id hc
  obtain ⟨hP, hS, hz⟩ := hC
  subst hx
  have hcl : (nI n).toNatClampNeg = n := nI_clamp (by omega)
  obtain ⟨t1, t2, t3, T, N, t4⟩ := arC_facts ht cT
  refine va_newq c1 c2 c4 (c5 _ hw) (c8 C t3) c7 hP (cw_D base b cT hp) hS.self (fun q hq => by show base ≤ q; omega) (N' := n) (nI_pos (by omega)) hcl (by omega) (by omega) (by omega) hd fun q cA H1 pk p1 p2 p3 => ?_
  have hcA : cA = cT (t - 6) := by
    obtain ⟨_, _, _, _, _, a1⟩ := (pk.2 (tysL cT).length _ (by rw [List.getElem?_append_right (Nat.le_refl _), Nat.sub_self]; rfl)).2
    obtain ⟨_, _, _, _, _, a2⟩ := (c7.2 (t - 6) _ t2).2
    exact Option.some.inj (a1.symm.trans a2)
  subst hcA
  refine W_size fun hsize => ?_
  obtain ⟨rfl, hq2⟩ := new_at (hs := hsz hp) (by omega) p1 p2 rfl
  rw [cw_new (base := base) (b := b) (cT := cT) (hp := hp) (t := t) (n := n) (z := fun _ => .null) (e := .inl (cT (t - 6), n, .inr (.inr (.inr (.inr fun _ => none))))) (ce_ref t1)] at p1
  refine h3 p l e R s m args below meth c base b D cT mc ms Qx hc hl hexit (cells + 1) (slots + n) lsA H1 locs ?_ ?_ ?_ ⟨p1, hS.tr p3, hq2⟩ hL
  · show cells + 1 + hsz hp' = mc + (hsz hp + 1); omega
  · show slots + n + htot hp' = ms + (htot hp + n); omega
  · show s.heap.size + (cells + 1) = base + (hsz hp + 1); omega
end NEWS
/-! calls -/
section GO
variable {p : Program} {l : Launch} {e : Env} {R : Room} {s : State} {m : MethodId} {args : Array Value} {below : List Frame} {meth : Method} {c : Code} {H : Heap} {locs : List Loc} {cells slots : Nat} {Qx : State → Prop}
theorem call_go {base b : Nat} {D : va_G} {cT : Nat → ClassId} {mc1 ms1 pc : Nat} {lsA : Array Slot} {st0 rest : List Value} {a : Array Value} {v : Option Value} {hp1 : AH} (hr : va_Run p l e R s m args below meth c H locs cells slots mc1 ms1 (F0 m pc lsA st0) rest (mQ base b D cT v hp1 a) (fun q => base ≤ q)) (hS : va_S (fun q => base ≤ q) s.heap H locs)
    (kk : ∀ (H1 : Heap) (locs1 : List Loc), Ch base b cT D hp1 s H1 locs1 → W p l e R s m args below meth c H1 locs1 (cells + mc1) (slots + ms1) Qx (F0 m (pc + 3) lsA ((v.map (cv base b)).toList ++ rest))) : W p l e R s m args below meth c H locs cells slots Qx (F0 m pc lsA st0) := by
  intro T hT X
  obtain ⟨w, st₀, t, T', L, h0, X', hL, q1, q2, ⟨hw, hP, hz, hF⟩, stp⟩ := hr T hT X
  cases hw
  rw [va_F, h0] at hF
  obtain ⟨z1, z2⟩ := hF
  obtain ⟨t2, a1, b1⟩ := kk T'.heap (locs ++ L) ⟨by rw [q1]; exact hP, ⟨by rw [q1]; exact Nat.le_trans hS.1 z1, fun q h1 h2 => by rw [q1, z2 q (Nat.lt_of_lt_of_le h1 hS.1) h2]; exact hS.2.1 q h1 h2, fun q hq => by
      rcases List.mem_append.mp hq with h | h
      · exact hS.2.2 q h
      · exact hL q h⟩, by rw [q1]; exact hz⟩ T' rfl X'
  exact ⟨t2, stp t2 a1, b1⟩
end GO
/-- what the tables say of a method: its code, its class, how many arguments -/
def mB (N : MD) (k : Nat) : Prop := .initialized N.1.cls ∈ Wall ∧ .code N.1 N.2.1 N.2.2.1 N.2.2.2 ∈ Wall ∧ N.1.cls ≠ "java/lang/invoke/MethodHandle" ∧ N.1.cls ≠ "java/lang/invoke/VarHandle" ∧ (parseMethodDescriptor N.1.desc).map (fun d => d.parameters.length) = some k ∧ N.2.2.1 ≤ 18
def mV (N : MD) (ci k : Nat) : Prop := mB N k ∧ (vwCl[ci]?).map (fun q => q.1) = some N.1.cls ∧ .instanceMethod N.1 ∈ Wall ∧ .selects N.1.cls N.1 N.1 ∈ Wall
def mI (N : MD) (k : Nat) : Prop := mB N k ∧ .instanceMethod N.1 ∈ Wall ∧ N.1.name = "<init>" ∧ N.2.2.2 = none
def mS (N : MD) (k : Nat) : Prop := mB N k ∧ .static N.1 ∈ Wall
theorem GoodW {ws : List Cond} (h : ∀ w ∈ ws, w ∈ Wall) : GoodIn Wall ws := fun w hw => ⟨h w hw, Wall_good w (h w hw)⟩
theorem wsM_in {N : MD} {k : Nat} (h : mB N k) : ∀ w ∈ wsM N, w ∈ Wall := by
  intro w hw
  rcases List.mem_cons.mp hw with rfl | h1
  · exact h.2.1
  · exact h1
theorem pre_go {L : Nat} {xs : Nat → Int32} {base b : Nat} {D : va_G} {cT : Nat → ClassId} {hp : AH} {s : State} {H : Heap} {locs : List Loc} {As : List Value} (c6 : ∀ w ∈ nestL, va_Nw w s) (c7 : va_K D vwCl (tysL cT) s) (c8 : ∀ C ∈ [RX0, RX1, RX3, RX4], va_AO C s) (hX : va_X b L xs s s.heap) (hbl : b < s.heap.size) (hbb : b < base) (hC : Ch base b cT D hp s H locs) :
    ∀ U : State, U.heap = H → s.WarmedH U.vm → va_Pc As (PreM L xs base b D cT hp) As.toArray U := by
  intro U hU hW
  refine ⟨rfl, by rw [hU]; exact hC.2.2, by rw [hU]; exact hC.1, va_K.moved hW.alike c7, nest_warm hW c6, fun C h => (c8 C h).moved hW.alike, ?_, hbb⟩
  rw [hU]
  exact va_X.moved hW.alike (hX.kept (hC.2.1.2.1 b hbl (Nat.not_le.mpr hbb)))
theorem cat_map (base b : Nat) (st : List Value) : ((st.map (cv base b)).map fun v => v.category).sum = (st.map fun v => v.category).sum := by
  rw [List.map_map]
  congr 1
  apply List.map_congr_left
  intro v _
  exact cv_cat base b v
section CALLS
variable {L : Nat} {xs : Nat → Int32} {d : Nat} {M : MD} {pc : Nat} {ls : LSt} {st st0 : List Value} {hp : AH} {Q Q1 : Option Value → AH → Prop}
theorem wp_callV {N : MD} {as : List Value} {i ci n k idx : Nat} (hd : decode M.2.1 pc = .ok (.invokevirtual idx, 3)) (hl : .methodLink M.1.cls idx N.1 ∈ Wall) (hN : mV N ci k) (hst : st0 = as.reverse ++ .ref i :: st) (ho : okc hp i ci n) (hk : as.length = k) (hcat : (st.map fun v => v.category).sum ≤ 8) (hm : WM L xs d N (.ref i :: as) hp Q1) (kk : ∀ v hp1, Q1 v hp1 → WP L xs (d + 1) M (pc + 3) ls (v.toList ++ st) hp1 Q) : WP L xs (d + 1) M pc ls st0 hp Q := by
  obtain ⟨v1, hp1, ⟨m1, m2, m3⟩, mq⟩ := hm
  obtain ⟨v', hp', ⟨h1, h2, h3⟩, q⟩ := kk v1 hp1 mq
  refine ⟨v', hp', ⟨by omega, by omega, ?_⟩, q⟩
  intro p l e R s m args below meth c base b D cT mc ms Qx hc hln hexit cells slots lsA H locs e1 e2 e3 hC hL
  obtain ⟨c1, c2, c3, c4, c5, c6, c7, c8, c9, c10, c11, c12, c13, c14, c15, c16, c17⟩ := id hc
  obtain ⟨a1, a2, a3⟩ := ho
  obtain ⟨j, rfl⟩ : ∃ j, i = j + 1 := ⟨i - 1, by omega⟩
  obtain ⟨nB, nc, n1, n2⟩ := hN
  obtain ⟨⟨C, T, N0⟩, f1, f2⟩ := Option.map_eq_some_iff.mp nc
  obtain ⟨g0, -⟩ := cl_facts f1
  have f2 : C = N.1.cls := f2
  have hcell : (cw base b cT hp)[j]? = some (base + j, .inr (ci, (List.range n).map fun k => cv base b (hv hp (j + 1) k))) := by rw [cw_get (by omega), a3, ce_obj g0]
  have hrv := va_recv c7 hC.1 f1 hcell
  rw [show (C, T, N0).1 = N.1.cls from f2] at hrv
  have hn9 : (as.map (cv base b)).length = k := by rw [List.length_map]; exact hk
  have hin : ∀ w ∈ wsV M.1.cls idx N.1.cls N.1 (wsM N), w ∈ Wall := by
    intro w hw
    rcases List.mem_append.mp hw with h | h
    · simp only [List.mem_cons, List.not_mem_nil, or_false] at h
      rcases h with rfl | rfl | rfl | rfl
      · exact hl
      · exact n1
      · exact n2
      · exact nB.1
    · exact wsM_in nB w h
  have hrun : va_Run p l e R s m args below meth c H locs cells slots (hsz hp1 - hsz hp) (htot hp1 - htot hp) (F0 m pc lsA (st0.map (cv base b))) (st.map (cv base b)) (mQ base b D cT v1 hp1 (Value.ref (base + j) :: as.map (cv base b)).toArray) (fun q => base ≤ q) := va_runV (g := F0 m pc lsA (st0.map (cv base b))) (locs := locs) (cells := cells) (slots := slots) (rest := st.map (cv base b)) (As := as.map (cv base b)) ⟨c1, c2, c3, c4, c5⟩ (m3 l base b D cT)
    (cwV k c5 (GoodW hin) rfl rfl rfl ⟨rfl, nB.2.2.1, nB.2.2.2.1, nB.2.2.2.2.1⟩ ⟨by show d + 1 ≤ R.frames; omega, by show 8 + (N.2.2.1 + 11) + 37 * d ≤ R.locals; have := nB.2.2.2.2.2; omega⟩)
    ⟨PreM.blind, hrv, pre_go c6 c7 c8 c14 c15 c16 hC⟩ rfl hn9 (by show lsA.size = _; rw [hL.1, hln]) (by rw [hst]; simp [cv, ca]) (lv_room (by rw [cat_map]; exact hcat)) hd ⟨by omega, by omega⟩
  refine call_go hrun hC.2.1 fun H1 locs1 hC1 => ?_
  have kw := h3 p l e R s m args below meth c base b D cT mc ms Qx hc hln hexit (cells + (hsz hp1 - hsz hp)) (slots + (htot hp1 - htot hp)) lsA H1 locs1 (by omega) (by omega) (by omega) hC1 hL
  rwa [List.map_append, show (v1.toList).map (cv base b) = (v1.map (cv base b)).toList by cases v1 <;> rfl] at kw
theorem wp_callS {N : MD} {as : List Value} {k idx : Nat} (hd : decode M.2.1 pc = .ok (.invokestatic idx, 3)) (hl : .methodLink M.1.cls idx N.1 ∈ Wall ∨ (M.1.cls, idx, N.1) ∈ nestM) (hN : mS N k) (hst : st0 = as.reverse ++ st) (hk : as.length = k) (hcat : (st.map fun v => v.category).sum ≤ 8) (hm : WM L xs d N as hp Q1) (kk : ∀ v hp1, Q1 v hp1 → WP L xs (d + 1) M (pc + 3) ls (v.toList ++ st) hp1 Q) : WP L xs (d + 1) M pc ls st0 hp Q := by
  obtain ⟨v1, hp1, ⟨m1, m2, m3⟩, mq⟩ := hm
  obtain ⟨v', hp', ⟨h1, h2, h3⟩, q⟩ := kk v1 hp1 mq
  refine ⟨v', hp', ⟨by omega, by omega, ?_⟩, q⟩
  intro p l e R s m args below meth c base b D cT mc ms Qx hc hln hexit cells slots lsA H locs e1 e2 e3 hC hL
  obtain ⟨c1, c2, c3, c4, c5, c6, c7, c8, c9, c10, c11, c12, c13, c14, c15, c16, c17⟩ := id hc
  obtain ⟨nB, n1⟩ := hN
  have hn9 : (as.map (cv base b)).length = k := by rw [List.length_map]; exact hk
  have hroom : (rmD d (hsz hp1 - hsz hp) (htot hp1 - htot hp)).frames + 1 ≤ R.frames ∧ 8 + (N.2.2.1 + 11) + (rmD d (hsz hp1 - hsz hp) (htot hp1 - htot hp)).locals ≤ R.locals := ⟨by show d + 1 ≤ R.frames; omega, by show 8 + (N.2.2.1 + 11) + 37 * d ≤ R.locals; have := nB.2.2.2.2.2; omega⟩
  have hrun : va_Run p l e R s m args below meth c H locs cells slots (hsz hp1 - hsz hp) (htot hp1 - htot hp) (F0 m pc lsA (st0.map (cv base b))) (st.map (cv base b)) (mQ base b D cT v1 hp1 (as.map (cv base b)).toArray) (fun q => base ≤ q) := by
    rcases hl with hl | hl
    · have hin : ∀ w ∈ va_wsS M.1.cls idx N.1 (wsM N), w ∈ Wall := by
        intro w hw
        rcases List.mem_append.mp hw with h | h
        · simp only [List.mem_cons, List.not_mem_nil, or_false] at h
          rcases h with rfl | rfl | rfl
          · exact hl
          · exact n1
          · exact nB.1
        · exact wsM_in nB w h
      exact va_runS (g := F0 m pc lsA (st0.map (cv base b))) (locs := locs) (cells := cells) (slots := slots) (rest := st.map (cv base b)) (As := as.map (cv base b)) ⟨c1, c2, c3, c4, c5⟩ (m3 l base b D cT)
        (va_cwS k c5 (GoodW hin) rfl rfl rfl ⟨nB.2.2.1, nB.2.2.2.1, nB.2.2.2.2.1⟩ hroom)
        ⟨PreM.blind, pre_go c6 c7 c8 c14 c15 c16 hC⟩ rfl hn9 (by show lsA.size = _; rw [hL.1, hln]) (by rw [hst]; simp) (lv_room (by rw [cat_map]; exact hcat)) hd ⟨by omega, by omega⟩
    · exact va_runSN (g := F0 m pc lsA (st0.map (cv base b))) (locs := locs) (cells := cells) (slots := slots) (rest := st.map (cv base b)) (As := as.map (cv base b)) ⟨c1, c2, c3, c4, c5⟩ (m3 l base b D cT)
        ⟨va_cnB k c5 (GoodW (wsM_in nB)) rfl rfl rfl (c6 _ (nestM_in hl)) (c5 _ nB.1) ⟨nB.2.2.1, nB.2.2.2.1, nB.2.2.2.2.1⟩ hroom, c5 _ n1, trivial⟩
        ⟨PreM.blind, pre_go c6 c7 c8 c14 c15 c16 hC⟩ rfl hn9 (by show lsA.size = _; rw [hL.1, hln]) (by rw [hst]; simp) (lv_room (by rw [cat_map]; exact hcat)) hd ⟨by omega, by omega⟩
  refine call_go hrun hC.2.1 fun H1 locs1 hC1 => ?_
  have kw := h3 p l e R s m args below meth c base b D cT mc ms Qx hc hln hexit (cells + (hsz hp1 - hsz hp)) (slots + (htot hp1 - htot hp)) lsA H1 locs1 (by omega) (by omega) (by omega) hC1 hL
  rwa [List.map_append, show (v1.toList).map (cv base b) = (v1.map (cv base b)).toList by cases v1 <;> rfl] at kw
theorem wp_callI {N : MD} {as : List Value} {i k idx : Nat} (hd : decode M.2.1 pc = .ok (.invokespecial idx, 3)) (hl : .methodLink M.1.cls idx N.1 ∈ Wall ∨ (M.1.cls, idx, N.1) ∈ nestM) (hN : mI N k) (hst : st0 = as.reverse ++ .ref i :: st) (hi : 1 ≤ i) (hk : as.length = k) (hcat : (st.map fun v => v.category).sum ≤ 8) (hm : WM L xs d N (.ref i :: as) hp Q1) (kk : ∀ v hp1, Q1 v hp1 → WP L xs (d + 1) M (pc + 3) ls (v.toList ++ st) hp1 Q) : WP L xs (d + 1) M pc ls st0 hp Q := by
  obtain ⟨v1, hp1, ⟨m1, m2, m3⟩, mq⟩ := hm
  obtain ⟨v', hp', ⟨h1, h2, h3⟩, q⟩ := kk v1 hp1 mq
  refine ⟨v', hp', ⟨by omega, by omega, ?_⟩, q⟩
  intro p l e R s m args below meth c base b D cT mc ms Qx hc hln hexit cells slots lsA H locs e1 e2 e3 hC hL
  obtain ⟨c1, c2, c3, c4, c5, c6, c7, c8, c9, c10, c11, c12, c13, c14, c15, c16, c17⟩ := id hc
  obtain ⟨nB, n1, n2, n3⟩ := hN
  obtain ⟨j, rfl⟩ : ∃ j, i = j + 1 := ⟨i - 1, by omega⟩
  have hn9 : (as.map (cv base b)).length = k := by rw [List.length_map]; exact hk
  have hroom : (rmD d (hsz hp1 - hsz hp) (htot hp1 - htot hp)).frames + 1 ≤ R.frames ∧ 8 + (N.2.2.1 + 11) + (rmD d (hsz hp1 - hsz hp) (htot hp1 - htot hp)).locals ≤ R.locals := ⟨by show d + 1 ≤ R.frames; omega, by show 8 + (N.2.2.1 + 11) + 37 * d ≤ R.locals; have := nB.2.2.2.2.2; omega⟩
  have hM : Met l N.1 (Cond.code N.1 N.2.1 N.2.2.1 none :: Wall) (rmD d (hsz hp1 - hsz hp) (htot hp1 - htot hp)) (va_Pc ((Value.ref (j + 1) :: as).map (cv base b)) (PreM L xs base b D cT hp)) (mQ base b D cT v1 hp1) (hsz hp1 - hsz hp) (htot hp1 - htot hp) (fun q => base ≤ q) := by
    have h9 := m3 l base b D cT
    rw [wsM, n3] at h9
    exact h9
  have hin : ∀ w ∈ (Cond.code N.1 N.2.1 N.2.2.1 none :: Wall), w ∈ Wall := by
    have h9 := wsM_in nB
    rw [wsM, n3] at h9
    exact h9
  have hrun : va_Run p l e R s m args below meth c H locs cells slots (hsz hp1 - hsz hp) (htot hp1 - htot hp) (F0 m pc lsA (st0.map (cv base b))) (st.map (cv base b)) (mQ base b D cT v1 hp1 (Value.ref (base + j) :: as.map (cv base b)).toArray) (fun q => base ≤ q) := by
    rcases hl with hl | hl
    · exact va_runI (g := F0 m pc lsA (st0.map (cv base b))) (locs := locs) (cells := cells) (slots := slots) (rest := st.map (cv base b)) (As := as.map (cv base b)) (b := base + j) ⟨c1, c2, c3, c4, c5⟩ hM
        (cwI k c5 (GoodW hin) rfl rfl rfl (c5 _ nB.1) (c5 _ hl) (c5 _ n1) n2 ⟨nB.2.2.1, nB.2.2.2.1, nB.2.2.2.2.1⟩ hroom)
        ⟨PreM.blind, pre_go c6 c7 c8 c14 c15 c16 hC⟩ rfl hn9 (by show lsA.size = _; rw [hL.1, hln]) (by rw [hst]; simp [cv, ca]) (lv_room (by rw [cat_map]; exact hcat)) hd ⟨by omega, by omega⟩
    · exact va_runIN (g := F0 m pc lsA (st0.map (cv base b))) (locs := locs) (cells := cells) (slots := slots) (rest := st.map (cv base b)) (As := as.map (cv base b)) (b := base + j) ⟨c1, c2, c3, c4, c5⟩ hM
        ⟨va_cnB k c5 (GoodW hin) rfl rfl rfl (c6 _ (nestM_in hl)) (c5 _ nB.1) ⟨nB.2.2.1, nB.2.2.2.1, nB.2.2.2.2.1⟩ hroom, n2, c5 _ n1⟩
        ⟨PreM.blind, pre_go c6 c7 c8 c14 c15 c16 hC⟩ rfl hn9 (by show lsA.size = _; rw [hL.1, hln]) (by rw [hst]; simp [cv, ca]) (lv_room (by rw [cat_map]; exact hcat)) hd ⟨by omega, by omega⟩
  refine call_go hrun hC.2.1 fun H1 locs1 hC1 => ?_
  have kw := h3 p l e R s m args below meth c base b D cT mc ms Qx hc hln hexit (cells + (hsz hp1 - hsz hp)) (slots + (htot hp1 - htot hp)) lsA H1 locs1 (by omega) (by omega) (by omega) hC1 hL
  rwa [List.map_append, show (v1.toList).map (cv base b) = (v1.map (cv base b)).toList by cases v1 <;> rfl] at kw
/-- Object.<init>: nothing -/
def oInit (own : String) (idx : Nat) : Prop := .methodLink own idx Lib.objectInit ∈ Wall ∧ .instanceMethod Lib.objectInit ∈ Wall ∧ .code Lib.objectInit ⟨#[0xb1]⟩ 1 none ∈ Wall
theorem wp_obj {i idx : Nat} (hd : decode M.2.1 pc = .ok (.invokespecial idx, 3)) (hl : oInit M.1.cls idx) (hi : 1 ≤ i) (hcat : (st.map fun v => v.category).sum ≤ 8) (kk : WP L xs (d + 1) M (pc + 3) ls st hp Q) : WP L xs (d + 1) M pc ls (.ref i :: st) hp Q := by
  obtain ⟨v', hp', ⟨h1, h2, h3⟩, q⟩ := kk
  refine ⟨v', hp', ⟨h1, h2, ?_⟩, q⟩
  intro p l e R s m args below meth c base b D cT mc ms Qx hc hln hexit cells slots lsA H locs e1 e2 e3 hC hL
  obtain ⟨c1, c2, c3, c4, c5, c6, c7, c8, c9, c10, c11, c12, c13, c14, c15, c16, c17⟩ := id hc
  obtain ⟨j, rfl⟩ : ∃ j, i = j + 1 := ⟨i - 1, by omega⟩
  have kw := h3 p l e R s m args below meth c base b D cT mc ms Qx hc hln hexit cells slots lsA H locs e1 e2 e3 hC hL
  have hm0 : (F0 m pc lsA ((Value.ref (j + 1) :: st).map (cv base b))).monitorRoom = 0 := rfl
  refine W.objInit c1 c2 c4 (c5 _ hl.1) (c5 _ hl.2.1) (c5 _ hl.2.2) rfl (by show lsA.size = _; rw [hL.1, hln, c3]) rfl hd (by omega) (by rw [hm0, cat_map]; omega) ?_
  exact kw
def acp (own : String) (idx : Nat) : Prop := .methodLink own idx arraycopyName ∈ Wall ∧ .native arraycopyName ∈ Wall ∧ .static arraycopyName ∈ Wall ∧ .initialized "java/lang/System" ∈ Wall
/-- System.arraycopy between arrays of ints, in range -/
theorem wp_copy {i j idx ni nj sp dp n : Nat} {x y z : Int32} (hd : decode M.2.1 pc = .ok (.invokestatic idx, 3)) (hl : acp M.1.cls idx) (hi : okc hp i 6 ni) (hj : okc hp j 6 nj) (hx : x = nI sp) (hy : y = nI dp) (hz : z = nI n) (h1 : sp + n ≤ ni) (h2 : dp + n ≤ nj) (hni : ni < 2 ^ 31) (hnj : nj < 2 ^ 31) (hcat : (st.map fun v => v.category).sum ≤ 8) (kk : WP L xs (d + 1) M (pc + 3) ls st (hcpy hp i j sp dp n) Q) : WP L xs (d + 1) M pc ls (.int z :: .int y :: .ref j :: .int x :: .ref i :: st) hp Q := by
  obtain ⟨v', hp', ⟨g1, g2, g3⟩, q⟩ := kk
  refine ⟨v', hp', ⟨g1, g2, ?_⟩, q⟩
  intro p l e R s m args below meth c base b D cT mc ms Qx hc hln hexit cells slots lsA H locs e1 e2 e3 hC hL
  obtain ⟨c1, c2, c3, c4, c5, c6, c7, c8, c9, c10, c11, c12, c13, c14, c15, c16, c17⟩ := id hc
  obtain ⟨hP, hS, hzz⟩ := hC
  obtain ⟨a1, a2, a3⟩ := hi
  obtain ⟨b1, b2, b3⟩ := hj
  obtain ⟨i, rfl⟩ : ∃ k, i = k + 1 := ⟨i - 1, by omega⟩
  obtain ⟨j, rfl⟩ : ∃ k, j = k + 1 := ⟨j - 1, by omega⟩
  subst hx; subst hy; subst hz
  have hcx : (nI sp).toNatClampNeg = sp := nI_clamp (by omega)
  have hcy : (nI dp).toNatClampNeg = dp := nI_clamp (by omega)
  have hcz : (nI n).toNatClampNeg = n := nI_clamp (by omega)
  have hci : (cw base b cT hp)[i]? = some (base + i, .inl (cT 0, ni, .inl fun k => toI (hv hp (i + 1) k))) := by rw [cw_get (by omega), a3, ce_int]
  have hcj : (cw base b cT hp)[j]? = some (base + j, .inl (cT 0, nj, .inl fun k => toI (hv hp (j + 1) k))) := by rw [cw_get (by omega), b3, ce_int]
  refine va_copyi (c := c) (cc := M.2.1) (ty := .int) c1 c2 (by rw [hL.1, hln, c3]) c4 (c5 _ hl.1) (c5 _ hl.2.1) (c5 _ hl.2.2.1) (c5 _ hl.2.2.2) c7 hP (cw_D base b cT hp) hS.self i j 0 0 hci hcj rfl rfl rfl (nI_pos (by omega)) (nI_pos (by omega)) (nI_pos (by omega)) (by rw [hcx, hcz]; exact h1) (by rw [hcy, hcz]; exact h2) (fun _ _ => rfl) (by omega) ?_ hd fun H1 locs1 p1 _ p3 => ?_
  · have hw : nativeFrameWords "java/lang/System" "arraycopy" 5 = 7 := by decide +kernel
    rw [hw, cat_map]
    omega
  · refine W_size fun hsize => ?_
    rw [hcx, hcy, hcz] at p1
    refine g3 p l e R s m args below meth c base b D cT mc ms Qx hc hln hexit cells slots lsA H1 locs1 e1 e2 e3 ⟨?_, hS.tr p3, ?_⟩ hL
    · rw [cw_upd (i := j) (hp := hp) (hp' := hcpy hp (i + 1) (j + 1) sp dp n) rfl (by omega) ?_ ?_] at p1
      · exact p1
      · show ce base b cT (hk hp (j + 1)) (fun l => if j + 1 = j + 1 then (if dp ≤ l ∧ l < dp + n then Value.int (toI (hv hp (i + 1) (sp + (l - dp)))) else hv hp (j + 1) l) else hv hp (j + 1) l) = _
        rw [b3, ce_int]
        congr 4
        funext l
        rw [if_pos rfl]
        unfold va_cpy
        by_cases hh : dp ≤ l ∧ l < dp + n
        · rw [if_pos hh, if_pos hh]; rfl
        · rw [if_neg hh, if_neg hh]
      · intro j' hj'
        refine ⟨rfl, ?_⟩
        funext l
        show (if j' = j + 1 then _ else hv hp j' l) = _
        rw [if_neg hj']
    · have h9 := p3.1
      have h8 : hsz (hcpy hp (i + 1) (j + 1) sp dp n) = hsz hp := rfl
      omega
end CALLS
end
section
/-! ===== Math.floorMod by 9 of a number that isn't negative, Math.max: the class java.lang.Math has entries of its own beside bytecode; floorMod has none ===== -/
abbrev fmX : MethodName := yJ9_floorMod_7cf53
abbrev fmB : ByteArray := cJ9_floorMod_7cf53
theorem fm_noRow0 : (NativeRow.find? natives fmX.cls fmX.name fmX.desc).isNone = true := by decide +kernel
theorem fm_noRow (p : Program) : NativeRow.find? p.tables.natives fmX.cls fmX.name fmX.desc = none := by
  cases p <;> exact Option.isNone_iff_eq_none.mp fm_noRow0
def fmSpec (a b r : Int32) : Spec where
  pre := .and (.code fmX fmB 3 (some .int)) (.and (.count 2) (.and (.isInt (.arg 0)) (.and (.isInt (.arg 1)) (.and (.eq (.arg 0) (.int a)) (.eq (.arg 1) (.int b))))))
  post := .and .returned (.eq .result (.int r))
  changes := some []
theorem fm_meets (l : Launch) {a b : Int32} (hb : ¬ b = 0) (hx : 0 ≤ a ^^^ b) : MeetsLoose l fmX (fmSpec a b (a - a / b * b)) := by
  refine MeetsLoose.of_body_ov (code := fmB) (maxLocals := 3) (ret := some .int) fm_noRow ?_ ?_
  · intro args s h
    simp only [fmSpec, Cond.before_and, Bool.and_eq_true] at h
    exact h.1
  · intro p e s m args below meth c s₁ B
    have hpre := B.pre
    simp only [fmSpec, Cond.before_and, Bool.and_eq_true] at hpre
    obtain ⟨a', b', rfl⟩ := Cond.two_ints hpre.2.1 hpre.2.2.1 hpre.2.2.2.1
    have ha' : a' = a := by
      have h := hpre.2.2.2.2.1
      simpa [Cond.before, Cond.holds, Cond.value, Term.eval] using h
    have hb' : b' = b := by
      have h := hpre.2.2.2.2.2
      simpa [Cond.before, Cond.holds, Cond.value, Term.eval] using h
    subst ha'; subst hb'
    have hloc : argsToLocals #[.int a', .int b'] 3 = #[.val (.int a'), .val (.int b'), .unset] := rfl
    obtain ⟨fs, hfs⟩ := handOver_isSome (s := s₁) (some (.int (a' - a' / b' * b'))) B.hears₁
    refine ⟨s₁.setFrames fs, .returned (some (.int (a' - a' / b' * b'))), ?_, B.here.running, B.ended hfs (by intro h; cases h), by simp [fmSpec, Cond.after, Cond.holds, Cond.value, Term.eval], State.sameBut_nil.mpr (by rw [State.frames_setFrames _ B.cur₁, B.back])⟩
    unfold entryFrame
    rw [hloc]
    refine Steps.instrAtOv (c := _) (by simpa using B.here) ?_
    simp [jvm, wpRun, exec, B.here.top, B.exec, B.bytes, dJ9_floorMod_7cf53_0]
    refine Steps.instrAtOv (c := _) (by simpa using B.here) ?_
    simp [jvm, wpRun, exec, B.here.top, B.exec, B.bytes, dJ9_floorMod_7cf53_1]
    refine Steps.instrAtOv (c := _) (by simpa using B.here) ?_
    simp [jvm, wpRun, exec, B.here.top, B.exec, B.bytes, dJ9_floorMod_7cf53_2, hb]
    refine Steps.instrAtOv (c := _) (by simpa using B.here) ?_
    simp [jvm, wpRun, exec, B.here.top, B.exec, B.bytes, dJ9_floorMod_7cf53_3]
    refine ⟨#[.val (.int a'), .val (.int b'), .val (.int (a' - a' / b' * b'))], by simp [storeLocals, storeSelf, setAt, Value.category], ?_⟩
    refine Steps.instrAtOv (c := _) (by simpa using B.here) ?_
    simp [jvm, wpRun, exec, B.here.top, B.exec, B.bytes, dJ9_floorMod_7cf53_4]
    refine Steps.instrAtOv (c := _) (by simpa using B.here) ?_
    simp [jvm, wpRun, exec, B.here.top, B.exec, B.bytes, dJ9_floorMod_7cf53_5]
    refine Steps.instrAtOv (c := _) (by simpa using B.here) ?_
    simp [jvm, wpRun, exec, B.here.top, B.exec, B.bytes, dJ9_floorMod_7cf53_6]
    refine Steps.instrAtOv (c := _) (by simpa using B.here) ?_
    simp [jvm, wpRun, exec, B.here.top, B.exec, B.bytes, dJ9_floorMod_7cf53_7, ifCond.holds, hx]
    refine Steps.instrAtOv (c := _) (by simpa using B.here) ?_
    simp [jvm, wpRun, exec, B.here.top, B.exec, B.bytes, dJ9_floorMod_7cf53_18]
    refine Steps.instrAtOv (c := _) (by simpa using B.here) ?_
    simp [jvm, wpRun, exec, B.here.top, B.exec, B.bytes, dJ9_floorMod_7cf53_19, B.method₁, B.returns, narrow]
    intro acts
    rw [ret_to B.frames₁ B.method₁ B.notSynchronized rfl rfl hfs]
    exact Steps.refl _
section FM
variable {L : Nat} {xs : Nat → Int32} {d : Nat} {M : MD} {pc : Nat} {ls : LSt} {st : List Value} {hp : AH} {Q : Option Value → AH → Prop}
def fmL (own : String) (idx : Nat) : Prop := .methodLink own idx fmX ∈ Wall ∧ .static fmX ∈ Wall ∧ .initialized "java/lang/Math" ∈ Wall ∧ .code fmX fmB 3 (some .int) ∈ Wall
theorem wp_fmod {idx k q : Nat} {x y : Int32} (hd : decode M.2.1 pc = .ok (.invokestatic idx, 3)) (hl : fmL M.1.cls idx) (hx : x = nI k) (hk : k < 2 ^ 31) (hy : y = nI q) (hq0 : 0 < q) (hq : q < 2 ^ 31) (hcat : (st.map fun v => v.category).sum ≤ 8) (kk : WP L xs (d + 1) M (pc + 3) ls (.int (nI (k % q)) :: st) hp Q) : WP L xs (d + 1) M pc ls (.int y :: .int x :: st) hp Q := by
  obtain ⟨v', hp', ⟨h1, h2, h3⟩, qq⟩ := kk
  refine ⟨v', hp', ⟨h1, h2, ?_⟩, qq⟩
  intro p l e R s m args below meth c base b D cT mc ms Qx hc hln hexit cells slots lsA H locs e1 e2 e3 hC hL
  obtain ⟨c1, c2, c3, c4, c5, c6, c7, c8, c9, c10, c11, c12, c13, c14, c15, c16, c17⟩ := id hc
  have kw := h3 p l e R s m args below meth c base b D cT mc ms Qx hc hln hexit cells slots lsA H locs e1 e2 e3 hC hL
  subst hx; subst hy
  have hne : ¬ nI q = 0 := nI_ne0 hq0 hq
  have hxor : (0 : Int32) ≤ nI k ^^^ nI q := by
    have h9 : nI k ^^^ nI q = nI (k ^^^ q) := by
      apply Int32.toBitVec_inj.mp
      apply BitVec.eq_of_toNat_eq
      rw [Int32.toBitVec_xor, BitVec.toNat_xor, pk_tn (by omega), pk_tn (by omega), pk_tn (Nat.xor_lt_two_pow (n := 32) (by omega) (by omega))]
    rw [h9]
    exact nI_pos' (Nat.xor_lt_two_pow hk hq)
  have hrem : nI k - nI k / nI q * nI q = nI (k % q) := pk_rem hk hq0 hq
  intro T hT X
  obtain ⟨v, vm', X', ⟨first, t, hpost⟩, hstep⟩ := X.staticByContractHK c1 c4 (c5 _ hl.1) (c5 _ hl.2.1) (c5 _ hl.2.2.1) (c5 _ hl.2.2.2) (by decide) (fm_meets l hne hxor) rfl rfl rfl rfl
    (fun args' first o s₂ h => by
      simp only [fmSpec, Cond.after_and, Bool.and_eq_true] at h
      cases o with
      | returned r => exact ⟨r, rfl⟩
      | threw y => simp [Cond.after, Cond.holds, Cond.value] at h)
    (g := F0 m pc lsA ((Value.int (nI q) :: Value.int (nI k) :: st).map (cv base b))) rfl (by show lsA.size = _; rw [hL.1, hln, c3]) (argsL := [.int (nI k), .int (nI q)]) (rest := st.map (cv base b))
    (fun sig hs => by
      have h : parseMethodDescriptor "(II)I" = some { parameters := [.int, .int], returnType := some .int } := by decide +kernel
      rw [show fmX.desc = "(II)I" from rfl, h] at hs
      rw [← Option.some.inj hs]; rfl)
    rfl (by rw [c2]; exact hd)
    (fun vm' hW => by
      simp only [fmSpec, Cond.before_and, Bool.and_eq_true]
      refine ⟨?_, rfl, rfl, rfl, by simp [Cond.before, Cond.holds, Cond.value, Term.eval], by simp [Cond.before, Cond.holds, Cond.value, Term.eval]⟩
      have q := c5 _ hl.2.2.2
      rw [← Cond.code_setVm hW.alike] at q
      simp only [Cond.before, Cond.holds, Cond.value, State.methodNamed?, State.vm_setVm] at q ⊢
      exact q)
    (by show 0 + 1 ≤ R.frames; omega) (by show 2 * 0 + ((st.map (cv base b)).map fun v => v.category).sum + (3 + 11) + 0 ≤ R.locals; rw [cat_map]; omega) (by show cells + 0 ≤ R.cells; omega) (by show slots + 0 ≤ R.slots; omega)
  have hv : v = some (.int (nI (k % q))) := by
    rw [← hrem]
    rcases v with _ | w
    · simp [fmSpec, Cond.after, Cond.holds, Cond.value, Term.eval] at hpost
    · cases w <;> simp [fmSpec, Cond.after, Cond.holds, Cond.value, Term.eval] at hpost
      rw [hpost]
  subst hv
  obtain ⟨t2, a1, b1⟩ := kw (T.setVm vm') hT X'
  exact ⟨t2, hstep t2 a1, b1⟩
def mxL (own : String) (idx : Nat) : Prop := .methodLink own idx Lib.Math.max.name ∈ Wall ∧ .static Lib.Math.max.name ∈ Wall ∧ .initialized "java/lang/Math" ∈ Wall ∧ .code Lib.Math.max.name Lib.Math.max.code 2 (some .int) ∈ Wall
theorem wp_max {idx : Nat} {x y : Int32} (hd : decode M.2.1 pc = .ok (.invokestatic idx, 3)) (hl : mxL M.1.cls idx) (hcat : (st.map fun v => v.category).sum ≤ 8) (kk : WP L xs (d + 1) M (pc + 3) ls (.int (if x < y then y else x) :: st) hp Q) : WP L xs (d + 1) M pc ls (.int y :: .int x :: st) hp Q := by
  obtain ⟨v', hp', ⟨h1, h2, h3⟩, qq⟩ := kk
  refine ⟨v', hp', ⟨h1, h2, ?_⟩, qq⟩
  intro p l e R s m args below meth c base b D cT mc ms Qx hc hln hexit cells slots lsA H locs e1 e2 e3 hC hL
  obtain ⟨c1, c2, c3, c4, c5, c6, c7, c8, c9, c10, c11, c12, c13, c14, c15, c16, c17⟩ := id hc
  have kw := h3 p l e R s m args below meth c base b D cT mc ms Qx hc hln hexit cells slots lsA H locs e1 e2 e3 hC hL
  exact va_mmax c1 c2 (by rw [hL.1, hln, c3]) c4 (c5 _ hl.1) (c5 _ hl.2.1) (c5 _ hl.2.2.1) (c5 _ hl.2.2.2) (by omega) (by rw [cat_map]; omega) (by omega) (by omega) hd kw
end FM
end
section
/-! ===== what the constant pools link, an entry each ===== -/
theorem o_X0_3 : oInit RX0 3 := ⟨inWall (by decide +kernel), inWall (by decide +kernel), inWall (by decide +kernel)⟩
theorem a_X0_9 : .classLink RX0 9 RX1 ∈ Wall := inWall (by decide +kernel)
theorem p_X0_11 {M : MD} (h : M.1.cls = RX0) (hi : M.1.name = "<init>") : fP M 11 0 0 := ⟨RX0, TX0, 12, rfl, by decide, rfl, Or.inl ⟨by rw [h]; exact inWall (by decide +kernel), Or.inr ⟨rfl, hi, h.symm⟩⟩⟩
theorem p_X0_17 {M : MD} (h : M.1.cls = RX0) (hi : M.1.name = "<init>") : fP M 17 0 1 := ⟨RX0, TX0, 12, rfl, by decide, rfl, Or.inl ⟨by rw [h]; exact inWall (by decide +kernel), Or.inr ⟨rfl, hi, h.symm⟩⟩⟩
theorem n_X0_21 : nC RX0 21 4 3 := ⟨RX4, TX4, rfl, inWall (by decide +kernel), inWall (by decide +kernel), inWall (by decide +kernel)⟩
theorem l_X0_23 : .methodLink RX0 23 yX4_init ∈ Wall ∨ (RX0, 23, yX4_init) ∈ nestM := Or.inl (inWall (by decide +kernel))
theorem p_X0_26 {M : MD} (h : M.1.cls = RX0) (hi : M.1.name = "<init>") : fP M 26 0 3 := ⟨RX0, TX0, 12, rfl, by decide, rfl, Or.inl ⟨by rw [h]; exact inWall (by decide +kernel), Or.inr ⟨rfl, hi, h.symm⟩⟩⟩
theorem p_X0_30 {M : MD} (h : M.1.cls = RX0) : fP M 30 0 4 := ⟨RX0, TX0, 12, rfl, by decide, rfl, Or.inl ⟨by rw [h]; exact inWall (by decide +kernel), Or.inl rfl⟩⟩
theorem f_X0_11 : fG RX0 11 0 0 := ⟨RX0, TX0, 12, rfl, by decide, rfl, Or.inl (inWall (by decide +kernel))⟩
theorem n_X0_9 : nC RX0 9 1 8 := ⟨RX1, TX1, rfl, inWall (by decide +kernel), inWall (by decide +kernel), inWall (by decide +kernel)⟩
theorem l_X0_34 : .methodLink RX0 34 yX1_init ∈ Wall ∨ (RX0, 34, yX1_init) ∈ nestM := Or.inr (by decide +kernel)
theorem p_X0_35 {M : MD} (h : M.1.cls = RX0) : fP M 35 0 6 := ⟨RX0, TX0, 12, rfl, by decide, rfl, Or.inl ⟨by rw [h]; exact inWall (by decide +kernel), Or.inl rfl⟩⟩
theorem p_X0_39 {M : MD} (h : M.1.cls = RX0) : fP M 39 1 6 := ⟨RX1, TX1, 8, rfl, by decide, rfl, Or.inr ⟨by rw [h]; decide +kernel, rfl⟩⟩
theorem p_X0_42 {M : MD} (h : M.1.cls = RX0) : fP M 42 1 7 := ⟨RX1, TX1, 8, rfl, by decide, rfl, Or.inr ⟨by rw [h]; decide +kernel, rfl⟩⟩
theorem p_X0_45 {M : MD} (h : M.1.cls = RX0) : fP M 45 1 3 := ⟨RX1, TX1, 8, rfl, by decide, rfl, Or.inr ⟨by rw [h]; decide +kernel, rfl⟩⟩
theorem l_X0_48 : .methodLink RX0 48 yX0_placeOf ∈ Wall := inWall (by decide +kernel)
theorem f_X0_52 : fG RX0 52 0 2 := ⟨RX0, TX0, 12, rfl, by decide, rfl, Or.inl (inWall (by decide +kernel))⟩
theorem p_X0_52 {M : MD} (h : M.1.cls = RX0) : fP M 52 0 2 := ⟨RX0, TX0, 12, rfl, by decide, rfl, Or.inl ⟨by rw [h]; exact inWall (by decide +kernel), Or.inl rfl⟩⟩
theorem f_X0_17 : fG RX0 17 0 1 := ⟨RX0, TX0, 12, rfl, by decide, rfl, Or.inl (inWall (by decide +kernel))⟩
theorem p_X0_55 {M : MD} (h : M.1.cls = RX0) : fP M 55 1 0 := ⟨RX1, TX1, 8, rfl, by decide, rfl, Or.inr ⟨by rw [h]; decide +kernel, rfl⟩⟩
theorem f_X0_58 : fG RX0 58 1 4 := ⟨RX1, TX1, 8, rfl, by decide, rfl, Or.inr (by decide +kernel)⟩
theorem f_X0_55 : fG RX0 55 1 0 := ⟨RX1, TX1, 8, rfl, by decide, rfl, Or.inr (by decide +kernel)⟩
theorem l_X0_61 : .methodLink RX0 61 yX0_makesRoom ∈ Wall := inWall (by decide +kernel)
theorem l_X0_65 : .methodLink RX0 65 yX1_beGiven ∈ Wall := inWall (by decide +kernel)
theorem l_X0_69 : .methodLink RX0 69 yX0_use ∈ Wall := inWall (by decide +kernel)
theorem l_X0_72 : .methodLink RX0 72 yX0_letGo ∈ Wall := inWall (by decide +kernel)
theorem f_X0_75 : fG RX0 75 0 10 := ⟨RX0, TX0, 12, rfl, by decide, rfl, Or.inl (inWall (by decide +kernel))⟩
theorem p_X0_75 {M : MD} (h : M.1.cls = RX0) : fP M 75 0 10 := ⟨RX0, TX0, 12, rfl, by decide, rfl, Or.inl ⟨by rw [h]; exact inWall (by decide +kernel), Or.inl rfl⟩⟩
theorem f_X0_78 : fG RX0 78 0 9 := ⟨RX0, TX0, 12, rfl, by decide, rfl, Or.inl (inWall (by decide +kernel))⟩
theorem p_X0_78 {M : MD} (h : M.1.cls = RX0) : fP M 78 0 9 := ⟨RX0, TX0, 12, rfl, by decide, rfl, Or.inl ⟨by rw [h]; exact inWall (by decide +kernel), Or.inl rfl⟩⟩
theorem f_X0_81 : fG RX0 81 0 5 := ⟨RX0, TX0, 12, rfl, by decide, rfl, Or.inl (inWall (by decide +kernel))⟩
theorem p_X0_84 {M : MD} (h : M.1.cls = RX0) : fP M 84 1 2 := ⟨RX1, TX1, 8, rfl, by decide, rfl, Or.inr ⟨by rw [h]; decide +kernel, rfl⟩⟩
theorem f_X0_87 : fG RX0 87 1 1 := ⟨RX1, TX1, 8, rfl, by decide, rfl, Or.inr (by decide +kernel)⟩
theorem l_X0_90 : .methodLink RX0 90 yX0_keepAside ∈ Wall := inWall (by decide +kernel)
theorem f_X0_26 : fG RX0 26 0 3 := ⟨RX0, TX0, 12, rfl, by decide, rfl, Or.inl (inWall (by decide +kernel))⟩
theorem f_X0_94 : fG RX0 94 4 2 := ⟨RX4, TX4, 3, rfl, by decide, rfl, Or.inr (by decide +kernel)⟩
theorem l_X0_97 : .methodLink RX0 97 yX4_dropFirst ∈ Wall := inWall (by decide +kernel)
theorem l_X0_100 : .methodLink RX0 100 yX4_addRow ∈ Wall := inWall (by decide +kernel)
theorem l_X0_104 : .methodLink RX0 104 yX4_put ∈ Wall := inWall (by decide +kernel)
theorem f_X0_42 : fG RX0 42 1 7 := ⟨RX1, TX1, 8, rfl, by decide, rfl, Or.inr (by decide +kernel)⟩
theorem f_X0_107 : fG RX0 107 1 5 := ⟨RX1, TX1, 8, rfl, by decide, rfl, Or.inr (by decide +kernel)⟩
theorem f_X0_110 : fG RX0 110 0 7 := ⟨RX0, TX0, 12, rfl, by decide, rfl, Or.inl (inWall (by decide +kernel))⟩
theorem f_X0_113 : fG RX0 113 0 8 := ⟨RX0, TX0, 12, rfl, by decide, rfl, Or.inl (inWall (by decide +kernel))⟩
theorem f_X0_116 : fG RX0 116 0 11 := ⟨RX0, TX0, 12, rfl, by decide, rfl, Or.inl (inWall (by decide +kernel))⟩
theorem f_X0_35 : fG RX0 35 0 6 := ⟨RX0, TX0, 12, rfl, by decide, rfl, Or.inl (inWall (by decide +kernel))⟩
theorem k_X0_119 : .constantLong RX0 119 31 ∈ Wall := inWall (by decide +kernel)
theorem l_X0_121 : .methodLink RX0 121 yX0_tell ∈ Wall := inWall (by decide +kernel)
theorem l_X0_124 : .methodLink RX0 124 yX1_tell ∈ Wall := inWall (by decide +kernel)
theorem l_X0_127 : .methodLink RX0 127 yX1_copyFrom ∈ Wall := inWall (by decide +kernel)
theorem l_X0_131 : .methodLink RX0 131 yX4_copyFrom ∈ Wall := inWall (by decide +kernel)
theorem f_X0_30 : fG RX0 30 0 4 := ⟨RX0, TX0, 12, rfl, by decide, rfl, Or.inl (inWall (by decide +kernel))⟩
theorem p_X0_81 {M : MD} (h : M.1.cls = RX0) : fP M 81 0 5 := ⟨RX0, TX0, 12, rfl, by decide, rfl, Or.inl ⟨by rw [h]; exact inWall (by decide +kernel), Or.inl rfl⟩⟩
theorem p_X0_110 {M : MD} (h : M.1.cls = RX0) : fP M 110 0 7 := ⟨RX0, TX0, 12, rfl, by decide, rfl, Or.inl ⟨by rw [h]; exact inWall (by decide +kernel), Or.inl rfl⟩⟩
theorem p_X0_113 {M : MD} (h : M.1.cls = RX0) : fP M 113 0 8 := ⟨RX0, TX0, 12, rfl, by decide, rfl, Or.inl ⟨by rw [h]; exact inWall (by decide +kernel), Or.inl rfl⟩⟩
theorem p_X0_116 {M : MD} (h : M.1.cls = RX0) : fP M 116 0 11 := ⟨RX0, TX0, 12, rfl, by decide, rfl, Or.inl ⟨by rw [h]; exact inWall (by decide +kernel), Or.inl rfl⟩⟩
theorem o_X1_3 : oInit RX1 3 := ⟨inWall (by decide +kernel), inWall (by decide +kernel), inWall (by decide +kernel)⟩
theorem p_X1_9 {M : MD} (h : M.1.cls = RX1) : fP M 9 1 3 := ⟨RX1, TX1, 8, rfl, by decide, rfl, Or.inl ⟨by rw [h]; exact inWall (by decide +kernel), Or.inl rfl⟩⟩
theorem f_X1_15 : fG RX1 15 1 0 := ⟨RX1, TX1, 8, rfl, by decide, rfl, Or.inl (inWall (by decide +kernel))⟩
theorem f_X1_19 : fG RX1 19 1 4 := ⟨RX1, TX1, 8, rfl, by decide, rfl, Or.inl (inWall (by decide +kernel))⟩
theorem f_X1_9 : fG RX1 9 1 3 := ⟨RX1, TX1, 8, rfl, by decide, rfl, Or.inl (inWall (by decide +kernel))⟩
theorem p_X1_22 {M : MD} (h : M.1.cls = RX1) : fP M 22 1 1 := ⟨RX1, TX1, 8, rfl, by decide, rfl, Or.inl ⟨by rw [h]; exact inWall (by decide +kernel), Or.inl rfl⟩⟩
theorem p_X1_19 {M : MD} (h : M.1.cls = RX1) : fP M 19 1 4 := ⟨RX1, TX1, 8, rfl, by decide, rfl, Or.inl ⟨by rw [h]; exact inWall (by decide +kernel), Or.inl rfl⟩⟩
theorem p_X1_25 {M : MD} (h : M.1.cls = RX1) : fP M 25 1 5 := ⟨RX1, TX1, 8, rfl, by decide, rfl, Or.inl ⟨by rw [h]; exact inWall (by decide +kernel), Or.inl rfl⟩⟩
theorem p_X1_15 {M : MD} (h : M.1.cls = RX1) : fP M 15 1 0 := ⟨RX1, TX1, 8, rfl, by decide, rfl, Or.inl ⟨by rw [h]; exact inWall (by decide +kernel), Or.inl rfl⟩⟩
theorem p_X1_28 {M : MD} (h : M.1.cls = RX1) : fP M 28 1 2 := ⟨RX1, TX1, 8, rfl, by decide, rfl, Or.inl ⟨by rw [h]; exact inWall (by decide +kernel), Or.inl rfl⟩⟩
theorem p_X1_31 {M : MD} (h : M.1.cls = RX1) : fP M 31 1 7 := ⟨RX1, TX1, 8, rfl, by decide, rfl, Or.inl ⟨by rw [h]; exact inWall (by decide +kernel), Or.inl rfl⟩⟩
theorem f_X1_22 : fG RX1 22 1 1 := ⟨RX1, TX1, 8, rfl, by decide, rfl, Or.inl (inWall (by decide +kernel))⟩
theorem f_X1_28 : fG RX1 28 1 2 := ⟨RX1, TX1, 8, rfl, by decide, rfl, Or.inl (inWall (by decide +kernel))⟩
theorem l_X1_34 : .methodLink RX1 34 yX1_isTrusted ∈ Wall := inWall (by decide +kernel)
theorem f_X1_38 : fG RX1 38 1 6 := ⟨RX1, TX1, 8, rfl, by decide, rfl, Or.inl (inWall (by decide +kernel))⟩
theorem f_X1_31 : fG RX1 31 1 7 := ⟨RX1, TX1, 8, rfl, by decide, rfl, Or.inl (inWall (by decide +kernel))⟩
theorem f_X1_25 : fG RX1 25 1 5 := ⟨RX1, TX1, 8, rfl, by decide, rfl, Or.inl (inWall (by decide +kernel))⟩
theorem p_X1_38 {M : MD} (h : M.1.cls = RX1) : fP M 38 1 6 := ⟨RX1, TX1, 8, rfl, by decide, rfl, Or.inl ⟨by rw [h]; exact inWall (by decide +kernel), Or.inl rfl⟩⟩
theorem o_X2_3 : oInit RX2 3 := ⟨inWall (by decide +kernel), inWall (by decide +kernel), inWall (by decide +kernel)⟩
theorem p_X2_9 {M : MD} (h : M.1.cls = RX2) : fP M 9 2 1 := ⟨RX2, TX2, 8, rfl, by decide, rfl, Or.inl ⟨by rw [h]; exact inWall (by decide +kernel), Or.inl rfl⟩⟩
theorem p_X2_15 {M : MD} (h : M.1.cls = RX2) : fP M 15 2 2 := ⟨RX2, TX2, 8, rfl, by decide, rfl, Or.inl ⟨by rw [h]; exact inWall (by decide +kernel), Or.inl rfl⟩⟩
theorem p_X2_18 {M : MD} (h : M.1.cls = RX2) : fP M 18 2 3 := ⟨RX2, TX2, 8, rfl, by decide, rfl, Or.inl ⟨by rw [h]; exact inWall (by decide +kernel), Or.inl rfl⟩⟩
theorem a_X2_21 : .classLink RX2 21 RX0 ∈ Wall := inWall (by decide +kernel)
theorem p_X2_23 {M : MD} (h : M.1.cls = RX2) (hi : M.1.name = "<init>") : fP M 23 2 5 := ⟨RX2, TX2, 8, rfl, by decide, rfl, Or.inl ⟨by rw [h]; exact inWall (by decide +kernel), Or.inr ⟨rfl, hi, h.symm⟩⟩⟩
theorem a_X2_27 : .classLink RX2 27 RX3 ∈ Wall := inWall (by decide +kernel)
theorem p_X2_29 {M : MD} (h : M.1.cls = RX2) (hi : M.1.name = "<init>") : fP M 29 2 6 := ⟨RX2, TX2, 8, rfl, by decide, rfl, Or.inl ⟨by rw [h]; exact inWall (by decide +kernel), Or.inr ⟨rfl, hi, h.symm⟩⟩⟩
theorem a_X2_33 : .classLink RX2 33 RX4 ∈ Wall := inWall (by decide +kernel)
theorem p_X2_35 {M : MD} (h : M.1.cls = RX2) (hi : M.1.name = "<init>") : fP M 35 2 7 := ⟨RX2, TX2, 8, rfl, by decide, rfl, Or.inl ⟨by rw [h]; exact inWall (by decide +kernel), Or.inr ⟨rfl, hi, h.symm⟩⟩⟩
theorem f_X2_23 : fG RX2 23 2 5 := ⟨RX2, TX2, 8, rfl, by decide, rfl, Or.inl (inWall (by decide +kernel))⟩
theorem n_X2_21 : nC RX2 21 0 12 := ⟨RX0, TX0, rfl, inWall (by decide +kernel), inWall (by decide +kernel), inWall (by decide +kernel)⟩
theorem l_X2_39 : .methodLink RX2 39 yX0_init ∈ Wall ∨ (RX2, 39, yX0_init) ∈ nestM := Or.inl (inWall (by decide +kernel))
theorem f_X2_29 : fG RX2 29 2 6 := ⟨RX2, TX2, 8, rfl, by decide, rfl, Or.inl (inWall (by decide +kernel))⟩
theorem n_X2_27 : nC RX2 27 3 5 := ⟨RX3, TX3, rfl, inWall (by decide +kernel), inWall (by decide +kernel), inWall (by decide +kernel)⟩
theorem l_X2_40 : .methodLink RX2 40 yX3_init ∈ Wall ∨ (RX2, 40, yX3_init) ∈ nestM := Or.inr (by decide +kernel)
theorem f_X2_35 : fG RX2 35 2 7 := ⟨RX2, TX2, 8, rfl, by decide, rfl, Or.inl (inWall (by decide +kernel))⟩
theorem n_X2_33 : nC RX2 33 4 3 := ⟨RX4, TX4, rfl, inWall (by decide +kernel), inWall (by decide +kernel), inWall (by decide +kernel)⟩
theorem l_X2_41 : .methodLink RX2 41 yX4_init ∈ Wall ∨ (RX2, 41, yX4_init) ∈ nestM := Or.inl (inWall (by decide +kernel))
theorem f_X2_44 : fG RX2 44 2 4 := ⟨RX2, TX2, 8, rfl, by decide, rfl, Or.inl (inWall (by decide +kernel))⟩
theorem p_X2_47 {M : MD} (h : M.1.cls = RX2) : fP M 47 0 4 := ⟨RX0, TX0, 12, rfl, by decide, rfl, Or.inr ⟨by rw [h]; decide +kernel, rfl⟩⟩
theorem p_X2_50 {M : MD} (h : M.1.cls = RX2) : fP M 50 0 5 := ⟨RX0, TX0, 12, rfl, by decide, rfl, Or.inr ⟨by rw [h]; decide +kernel, rfl⟩⟩
theorem p_X2_44 {M : MD} (h : M.1.cls = RX2) : fP M 44 2 4 := ⟨RX2, TX2, 8, rfl, by decide, rfl, Or.inl ⟨by rw [h]; exact inWall (by decide +kernel), Or.inl rfl⟩⟩
theorem l_X2_53 : .methodLink RX2 53 yJ9_floorMod_7cf53 ∈ Wall ∨ (RX2, 53, yJ9_floorMod_7cf53) ∈ nestM := Or.inl (inWall (by decide +kernel))
theorem f_X2_59 : fG RX2 59 4 2 := ⟨RX4, TX4, 3, rfl, by decide, rfl, Or.inr (by decide +kernel)⟩
theorem f_X2_62 : fG RX2 62 2 0 := ⟨RX2, TX2, 8, rfl, by decide, rfl, Or.inl (inWall (by decide +kernel))⟩
theorem l_X2_65 : .methodLink RX2 65 yX2_slotAt ∈ Wall := inWall (by decide +kernel)
theorem l_X2_69 : .methodLink RX2 69 yX4_get ∈ Wall := inWall (by decide +kernel)
theorem k_X2_72 : .constantLong RX2 72 31 ∈ Wall := inWall (by decide +kernel)
theorem f_X2_47 : fG RX2 47 0 4 := ⟨RX0, TX0, 12, rfl, by decide, rfl, Or.inr (by decide +kernel)⟩
theorem l_X2_74 : .methodLink RX2 74 yX4_addRow ∈ Wall := inWall (by decide +kernel)
theorem l_X2_78 : .methodLink RX2 78 yX4_put ∈ Wall := inWall (by decide +kernel)
theorem f_X2_82 : fG RX2 82 0 6 := ⟨RX0, TX0, 12, rfl, by decide, rfl, Or.inr (by decide +kernel)⟩
theorem f_X2_86 : fG RX2 86 0 0 := ⟨RX0, TX0, 12, rfl, by decide, rfl, Or.inr (by decide +kernel)⟩
theorem p_X2_90 {M : MD} (h : M.1.cls = RX2) : fP M 90 1 7 := ⟨RX1, TX1, 8, rfl, by decide, rfl, Or.inr ⟨by rw [h]; decide +kernel, rfl⟩⟩
theorem f_X2_95 : fG RX2 95 1 1 := ⟨RX1, TX1, 8, rfl, by decide, rfl, Or.inr (by decide +kernel)⟩
theorem f_X2_98 : fG RX2 98 1 2 := ⟨RX1, TX1, 8, rfl, by decide, rfl, Or.inr (by decide +kernel)⟩
theorem l_X2_101 : .methodLink RX2 101 yX2_send ∈ Wall := inWall (by decide +kernel)
theorem l_X2_105 : .methodLink RX2 105 yX1_isTrusted ∈ Wall := inWall (by decide +kernel)
theorem f_X2_109 : fG RX2 109 0 7 := ⟨RX0, TX0, 12, rfl, by decide, rfl, Or.inr (by decide +kernel)⟩
theorem p_X2_109 {M : MD} (h : M.1.cls = RX2) : fP M 109 0 7 := ⟨RX0, TX0, 12, rfl, by decide, rfl, Or.inr ⟨by rw [h]; decide +kernel, rfl⟩⟩
theorem l_X2_112 : .methodLink RX2 112 yX0_use ∈ Wall := inWall (by decide +kernel)
theorem f_X2_115 : fG RX2 115 0 8 := ⟨RX0, TX0, 12, rfl, by decide, rfl, Or.inr (by decide +kernel)⟩
theorem p_X2_115 {M : MD} (h : M.1.cls = RX2) : fP M 115 0 8 := ⟨RX0, TX0, 12, rfl, by decide, rfl, Or.inr ⟨by rw [h]; decide +kernel, rfl⟩⟩
theorem f_X2_118 : fG RX2 118 1 6 := ⟨RX1, TX1, 8, rfl, by decide, rfl, Or.inr (by decide +kernel)⟩
theorem p_X2_118 {M : MD} (h : M.1.cls = RX2) : fP M 118 1 6 := ⟨RX1, TX1, 8, rfl, by decide, rfl, Or.inr ⟨by rw [h]; decide +kernel, rfl⟩⟩
theorem p_X2_82 {M : MD} (h : M.1.cls = RX2) : fP M 82 0 6 := ⟨RX0, TX0, 12, rfl, by decide, rfl, Or.inr ⟨by rw [h]; decide +kernel, rfl⟩⟩
theorem l_X2_121 : .methodLink RX2 121 yX0_endLeases ∈ Wall := inWall (by decide +kernel)
theorem l_X2_124 : .methodLink RX2 124 yX0_longestDirty ∈ Wall := inWall (by decide +kernel)
theorem l_X2_127 : .methodLink RX2 127 yX2_sendStore ∈ Wall := inWall (by decide +kernel)
theorem f_X2_131 : fG RX2 131 1 4 := ⟨RX1, TX1, 8, rfl, by decide, rfl, Or.inr (by decide +kernel)⟩
theorem f_X2_90 : fG RX2 90 1 7 := ⟨RX1, TX1, 8, rfl, by decide, rfl, Or.inr (by decide +kernel)⟩
theorem f_X2_134 : fG RX2 134 1 5 := ⟨RX1, TX1, 8, rfl, by decide, rfl, Or.inr (by decide +kernel)⟩
theorem p_X2_62 {M : MD} (h : M.1.cls = RX2) : fP M 62 2 0 := ⟨RX2, TX2, 8, rfl, by decide, rfl, Or.inl ⟨by rw [h]; exact inWall (by decide +kernel), Or.inl rfl⟩⟩
theorem l_X2_137 : .methodLink RX2 137 yX2_bring ∈ Wall := inWall (by decide +kernel)
theorem p_X2_59 {M : MD} (h : M.1.cls = RX2) : fP M 59 4 2 := ⟨RX4, TX4, 3, rfl, by decide, rfl, Or.inr ⟨by rw [h]; decide +kernel, rfl⟩⟩
theorem l_X2_141 : .methodLink RX2 141 yX2_lookAtFirst ∈ Wall := inWall (by decide +kernel)
theorem f_X2_15 : fG RX2 15 2 2 := ⟨RX2, TX2, 8, rfl, by decide, rfl, Or.inl (inWall (by decide +kernel))⟩
theorem l_X2_144 : .methodLink RX2 144 yX2_sendDirty ∈ Wall := inWall (by decide +kernel)
theorem l_X2_147 : .methodLink RX2 147 yX2_isClient ∈ Wall := inWall (by decide +kernel)
theorem l_X2_151 : .methodLink RX2 151 yX5_isFile ∈ Wall ∨ (RX2, 151, yX5_isFile) ∈ nestM := Or.inr (by decide +kernel)
theorem f_X2_154 : fG RX2 154 0 11 := ⟨RX0, TX0, 12, rfl, by decide, rfl, Or.inr (by decide +kernel)⟩
theorem p_X2_154 {M : MD} (h : M.1.cls = RX2) : fP M 154 0 11 := ⟨RX0, TX0, 12, rfl, by decide, rfl, Or.inr ⟨by rw [h]; decide +kernel, rfl⟩⟩
theorem l_X2_157 : .methodLink RX2 157 yX3_addRequest ∈ Wall := inWall (by decide +kernel)
theorem f_X2_161 : fG RX2 161 3 2 := ⟨RX3, TX3, 5, rfl, by decide, rfl, Or.inr (by decide +kernel)⟩
theorem f_X2_18 : fG RX2 18 2 3 := ⟨RX2, TX2, 8, rfl, by decide, rfl, Or.inl (inWall (by decide +kernel))⟩
theorem l_X2_165 : .methodLink RX2 165 yX0_takeGiven ∈ Wall := inWall (by decide +kernel)
theorem l_X2_169 : .methodLink RX2 169 yX1_beStored ∈ Wall := inWall (by decide +kernel)
theorem l_X2_172 : .methodLink RX2 172 yX0_takeClash ∈ Wall := inWall (by decide +kernel)
theorem l_X2_176 : .methodLink RX2 176 yX0_takeCall ∈ Wall := inWall (by decide +kernel)
theorem f_X2_179 : fG RX2 179 3 3 := ⟨RX3, TX3, 5, rfl, by decide, rfl, Or.inr (by decide +kernel)⟩
theorem l_X2_183 : .methodLink RX2 183 yX2_callOthers ∈ Wall := inWall (by decide +kernel)
theorem l_X2_186 : .methodLink RX2 186 yX3_hasToWait ∈ Wall := inWall (by decide +kernel)
theorem l_X2_190 : .methodLink RX2 190 yX2_answer ∈ Wall := inWall (by decide +kernel)
theorem p_X2_193 {M : MD} (h : M.1.cls = RX2) : fP M 193 3 4 := ⟨RX3, TX3, 5, rfl, by decide, rfl, Or.inr ⟨by rw [h]; decide +kernel, rfl⟩⟩
theorem l_X2_196 : .methodLink RX2 196 yX4_dropFirst ∈ Wall := inWall (by decide +kernel)
theorem f_X2_193 : fG RX2 193 3 4 := ⟨RX3, TX3, 5, rfl, by decide, rfl, Or.inr (by decide +kernel)⟩
theorem l_X2_199 : .methodLink RX2 199 yX3_isLeased ∈ Wall := inWall (by decide +kernel)
theorem f_X2_202 : fG RX2 202 3 1 := ⟨RX3, TX3, 5, rfl, by decide, rfl, Or.inr (by decide +kernel)⟩
theorem f_X2_203 : fG RX2 203 3 0 := ⟨RX3, TX3, 5, rfl, by decide, rfl, Or.inr (by decide +kernel)⟩
theorem p_X2_203 {M : MD} (h : M.1.cls = RX2) : fP M 203 3 0 := ⟨RX3, TX3, 5, rfl, by decide, rfl, Or.inr ⟨by rw [h]; decide +kernel, rfl⟩⟩
theorem p_X2_202 {M : MD} (h : M.1.cls = RX2) : fP M 202 3 1 := ⟨RX3, TX3, 5, rfl, by decide, rfl, Or.inr ⟨by rw [h]; decide +kernel, rfl⟩⟩
theorem f_X2_9 : fG RX2 9 2 1 := ⟨RX2, TX2, 8, rfl, by decide, rfl, Or.inl (inWall (by decide +kernel))⟩
theorem l_X2_204 : .methodLink RX2 204 yX0_isClean ∈ Wall := inWall (by decide +kernel)
theorem l_X2_208 : .methodLink RX2 208 yX2_thingCount ∈ Wall := inWall (by decide +kernel)
theorem l_X2_211 : .methodLink RX2 211 yX0_copyFrom ∈ Wall := inWall (by decide +kernel)
theorem l_X2_215 : .methodLink RX2 215 yX3_copyFrom ∈ Wall := inWall (by decide +kernel)
theorem l_X2_218 : .methodLink RX2 218 yX4_copyFrom ∈ Wall := inWall (by decide +kernel)
theorem o_X3_3 : oInit RX3 3 := ⟨inWall (by decide +kernel), inWall (by decide +kernel), inWall (by decide +kernel)⟩
theorem p_X3_9 {M : MD} (h : M.1.cls = RX3) (hi : M.1.name = "<init>") : fP M 9 3 2 := ⟨RX3, TX3, 5, rfl, by decide, rfl, Or.inl ⟨by rw [h]; exact inWall (by decide +kernel), Or.inr ⟨rfl, hi, h.symm⟩⟩⟩
theorem n_X3_15 : nC RX3 15 4 3 := ⟨RX4, TX4, rfl, inWall (by decide +kernel), inWall (by decide +kernel), inWall (by decide +kernel)⟩
theorem l_X3_17 : .methodLink RX3 17 yX4_init ∈ Wall ∨ (RX3, 17, yX4_init) ∈ nestM := Or.inl (inWall (by decide +kernel))
theorem p_X3_20 {M : MD} (h : M.1.cls = RX3) (hi : M.1.name = "<init>") : fP M 20 3 3 := ⟨RX3, TX3, 5, rfl, by decide, rfl, Or.inl ⟨by rw [h]; exact inWall (by decide +kernel), Or.inr ⟨rfl, hi, h.symm⟩⟩⟩
theorem f_X3_9 : fG RX3 9 3 2 := ⟨RX3, TX3, 5, rfl, by decide, rfl, Or.inl (inWall (by decide +kernel))⟩
theorem f_X3_20 : fG RX3 20 3 3 := ⟨RX3, TX3, 5, rfl, by decide, rfl, Or.inl (inWall (by decide +kernel))⟩
theorem l_X3_24 : .methodLink RX3 24 yX4_get ∈ Wall := inWall (by decide +kernel)
theorem l_X3_28 : .methodLink RX3 28 yX3_isLeased ∈ Wall := inWall (by decide +kernel)
theorem l_X3_32 : .methodLink RX3 32 yX4_addRow ∈ Wall := inWall (by decide +kernel)
theorem l_X3_36 : .methodLink RX3 36 yX4_put ∈ Wall := inWall (by decide +kernel)
theorem f_X3_40 : fG RX3 40 3 0 := ⟨RX3, TX3, 5, rfl, by decide, rfl, Or.inl (inWall (by decide +kernel))⟩
theorem f_X3_44 : fG RX3 44 3 1 := ⟨RX3, TX3, 5, rfl, by decide, rfl, Or.inl (inWall (by decide +kernel))⟩
theorem f_X3_47 : fG RX3 47 4 2 := ⟨RX4, TX4, 3, rfl, by decide, rfl, Or.inr (by decide +kernel)⟩
theorem l_X3_50 : .methodLink RX3 50 yX3_leasedSet ∈ Wall := inWall (by decide +kernel)
theorem p_X3_40 {M : MD} (h : M.1.cls = RX3) : fP M 40 3 0 := ⟨RX3, TX3, 5, rfl, by decide, rfl, Or.inl ⟨by rw [h]; exact inWall (by decide +kernel), Or.inl rfl⟩⟩
theorem p_X3_44 {M : MD} (h : M.1.cls = RX3) : fP M 44 3 1 := ⟨RX3, TX3, 5, rfl, by decide, rfl, Or.inl ⟨by rw [h]; exact inWall (by decide +kernel), Or.inl rfl⟩⟩
theorem l_X3_54 : .methodLink RX3 54 yX4_copyFrom ∈ Wall := inWall (by decide +kernel)
theorem f_X3_58 : fG RX3 58 3 4 := ⟨RX3, TX3, 5, rfl, by decide, rfl, Or.inl (inWall (by decide +kernel))⟩
theorem p_X3_58 {M : MD} (h : M.1.cls = RX3) : fP M 58 3 4 := ⟨RX3, TX3, 5, rfl, by decide, rfl, Or.inl ⟨by rw [h]; exact inWall (by decide +kernel), Or.inl rfl⟩⟩
theorem o_X4_3 : oInit RX4 3 := ⟨inWall (by decide +kernel), inWall (by decide +kernel), inWall (by decide +kernel)⟩
theorem l_X4_9 : .methodLink RX4 9 yJ9_max_7cf53 ∈ Wall ∨ (RX4, 9, yJ9_max_7cf53) ∈ nestM := Or.inl (inWall (by decide +kernel))
theorem p_X4_15 {M : MD} (h : M.1.cls = RX4) (hi : M.1.name = "<init>") : fP M 15 4 0 := ⟨RX4, TX4, 3, rfl, by decide, rfl, Or.inl ⟨by rw [h]; exact inWall (by decide +kernel), Or.inr ⟨rfl, hi, h.symm⟩⟩⟩
theorem f_X4_15 : fG RX4 15 4 0 := ⟨RX4, TX4, 3, rfl, by decide, rfl, Or.inl (inWall (by decide +kernel))⟩
theorem p_X4_21 {M : MD} (h : M.1.cls = RX4) : fP M 21 4 1 := ⟨RX4, TX4, 3, rfl, by decide, rfl, Or.inl ⟨by rw [h]; exact inWall (by decide +kernel), Or.inl rfl⟩⟩
theorem f_X4_25 : fG RX4 25 4 2 := ⟨RX4, TX4, 3, rfl, by decide, rfl, Or.inl (inWall (by decide +kernel))⟩
theorem k_X4_28 : .constant RX4 28 65536 ∈ Wall := inWall (by decide +kernel)
theorem f_X4_21 : fG RX4 21 4 1 := ⟨RX4, TX4, 3, rfl, by decide, rfl, Or.inl (inWall (by decide +kernel))⟩
theorem o_X4_29 : acp RX4 29 := ⟨inWall (by decide +kernel), inWall (by decide +kernel), inWall (by decide +kernel), inWall (by decide +kernel)⟩
theorem p_X4_25 {M : MD} (h : M.1.cls = RX4) : fP M 25 4 2 := ⟨RX4, TX4, 3, rfl, by decide, rfl, Or.inl ⟨by rw [h]; exact inWall (by decide +kernel), Or.inl rfl⟩⟩
theorem l_X4_35 : .methodLink RX4 35 yX4_isCell ∈ Wall := inWall (by decide +kernel)
theorem o_X5_1 : oInit RX5 1 := ⟨inWall (by decide +kernel), inWall (by decide +kernel), inWall (by decide +kernel)⟩
theorem n_X5_7 : nC RX5 7 2 8 := ⟨RX2, TX2, rfl, inWall (by decide +kernel), inWall (by decide +kernel), inWall (by decide +kernel)⟩
theorem l_X5_9 : .methodLink RX5 9 yX2_init ∈ Wall ∨ (RX5, 9, yX2_init) ∈ nestM := Or.inl (inWall (by decide +kernel))
theorem p_X5_10 {M : MD} (h : M.1.cls = RX5) (hi : M.1.name = "<init>") : fP M 10 5 0 := ⟨RX5, TX5, 2, rfl, by decide, rfl, Or.inl ⟨by rw [h]; exact inWall (by decide +kernel), Or.inr ⟨rfl, hi, h.symm⟩⟩⟩
theorem p_X5_16 {M : MD} (h : M.1.cls = RX5) (hi : M.1.name = "<init>") : fP M 16 5 1 := ⟨RX5, TX5, 2, rfl, by decide, rfl, Or.inl ⟨by rw [h]; exact inWall (by decide +kernel), Or.inr ⟨rfl, hi, h.symm⟩⟩⟩
theorem f_X5_10 : fG RX5 10 5 0 := ⟨RX5, TX5, 2, rfl, by decide, rfl, Or.inl (inWall (by decide +kernel))⟩
theorem f_X5_26 : fG RX5 26 2 4 := ⟨RX2, TX2, 8, rfl, by decide, rfl, Or.inr (by decide +kernel)⟩
theorem l_X5_35 : .methodLink RX5 35 yX2_join ∈ Wall := inWall (by decide +kernel)
theorem f_X5_41 : fG RX5 41 2 1 := ⟨RX2, TX2, 8, rfl, by decide, rfl, Or.inr (by decide +kernel)⟩
theorem p_X5_41 {M : MD} (h : M.1.cls = RX5) : fP M 41 2 1 := ⟨RX2, TX2, 8, rfl, by decide, rfl, Or.inr ⟨by rw [h]; decide +kernel, rfl⟩⟩
theorem p_X5_44 {M : MD} (h : M.1.cls = RX5) : fP M 44 2 2 := ⟨RX2, TX2, 8, rfl, by decide, rfl, Or.inr ⟨by rw [h]; decide +kernel, rfl⟩⟩
theorem f_X5_49 : fG RX5 49 2 3 := ⟨RX2, TX2, 8, rfl, by decide, rfl, Or.inr (by decide +kernel)⟩
theorem p_X5_49 {M : MD} (h : M.1.cls = RX5) : fP M 49 2 3 := ⟨RX2, TX2, 8, rfl, by decide, rfl, Or.inr ⟨by rw [h]; decide +kernel, rfl⟩⟩
theorem l_X5_52 : .methodLink RX5 52 yX5_checkClient ∈ Wall := inWall (by decide +kernel)
theorem l_X5_56 : .methodLink RX5 56 yX2_mendLine ∈ Wall := inWall (by decide +kernel)
theorem f_X5_60 : fG RX5 60 2 5 := ⟨RX2, TX2, 8, rfl, by decide, rfl, Or.inr (by decide +kernel)⟩
theorem l_X5_64 : .methodLink RX5 64 yX0_cutLine ∈ Wall := inWall (by decide +kernel)
theorem l_X5_69 : .methodLink RX5 69 yX5_checkFile ∈ Wall ∨ (RX5, 69, yX5_checkFile) ∈ nestM := Or.inl (inWall (by decide +kernel))
theorem l_X5_72 : .methodLink RX5 72 yX2_reach ∈ Wall := inWall (by decide +kernel)
theorem f_X5_76 : fG RX5 76 0 0 := ⟨RX0, TX0, 12, rfl, by decide, rfl, Or.inr (by decide +kernel)⟩
theorem f_X5_80 : fG RX5 80 1 1 := ⟨RX1, TX1, 8, rfl, by decide, rfl, Or.inr (by decide +kernel)⟩
theorem f_X5_87 : fG RX5 87 2 0 := ⟨RX2, TX2, 8, rfl, by decide, rfl, Or.inr (by decide +kernel)⟩
theorem l_X5_90 : .methodLink RX5 90 yX1_putContent ∈ Wall := inWall (by decide +kernel)
theorem l_X5_94 : .methodLink RX5 94 yX2_sendDirty ∈ Wall := inWall (by decide +kernel)
theorem l_X5_97 : .methodLink RX5 97 yX5_checkTicks ∈ Wall ∨ (RX5, 97, yX5_checkTicks) ∈ nestM := Or.inl (inWall (by decide +kernel))
theorem l_X5_100 : .methodLink RX5 100 yX2_passTick ∈ Wall := inWall (by decide +kernel)
theorem l_X5_103 : .methodLink RX5 103 yX2_thingCount ∈ Wall := inWall (by decide +kernel)
theorem l_X5_107 : .methodLink RX5 107 yX5_checkWhat ∈ Wall ∨ (RX5, 107, yX5_checkWhat) ∈ nestM := Or.inl (inWall (by decide +kernel))
theorem f_X5_110 : fG RX5 110 2 6 := ⟨RX2, TX2, 8, rfl, by decide, rfl, Or.inr (by decide +kernel)⟩
theorem l_X5_114 : .methodLink RX5 114 yX3_tell ∈ Wall := inWall (by decide +kernel)
theorem l_X5_135 : .methodLink RX5 135 yX5_checkPlace ∈ Wall ∨ (RX5, 135, yX5_checkPlace) ∈ nestM := Or.inl (inWall (by decide +kernel))
theorem l_X5_141 : .methodLink RX5 141 yX2_tellThing ∈ Wall := inWall (by decide +kernel)
theorem f_X5_144 : fG RX5 144 0 6 := ⟨RX0, TX0, 12, rfl, by decide, rfl, Or.inr (by decide +kernel)⟩
theorem l_X5_148 : .methodLink RX5 148 yX1_tell ∈ Wall := inWall (by decide +kernel)
theorem f_X5_151 : fG RX5 151 0 2 := ⟨RX0, TX0, 12, rfl, by decide, rfl, Or.inr (by decide +kernel)⟩
theorem f_X5_154 : fG RX5 154 0 1 := ⟨RX0, TX0, 12, rfl, by decide, rfl, Or.inr (by decide +kernel)⟩
theorem l_X5_157 : .methodLink RX5 157 yX0_tell ∈ Wall := inWall (by decide +kernel)
theorem f_X5_162 : fG RX5 162 0 7 := ⟨RX0, TX0, 12, rfl, by decide, rfl, Or.inr (by decide +kernel)⟩
theorem f_X5_165 : fG RX5 165 0 8 := ⟨RX0, TX0, 12, rfl, by decide, rfl, Or.inr (by decide +kernel)⟩
theorem l_X5_168 : .methodLink RX5 168 yX2_staleCount ∈ Wall := inWall (by decide +kernel)
theorem f_X5_16 : fG RX5 16 5 1 := ⟨RX5, TX5, 2, rfl, by decide, rfl, Or.inl (inWall (by decide +kernel))⟩
theorem l_X5_171 : .methodLink RX5 171 yX2_copyFrom ∈ Wall := inWall (by decide +kernel)
theorem l_X5_175 : .methodLink RX5 175 yX2_isCalm ∈ Wall := inWall (by decide +kernel)
theorem f_X5_179 : fG RX5 179 3 0 := ⟨RX3, TX3, 5, rfl, by decide, rfl, Or.inr (by decide +kernel)⟩
theorem f_X5_180 : fG RX5 180 0 9 := ⟨RX0, TX0, 12, rfl, by decide, rfl, Or.inr (by decide +kernel)⟩
theorem k_X5_183 : .constantLong RX5 183 58077 ∈ Wall := inWall (by decide +kernel)
theorem k_X5_185 : .constantLong RX5 185 31 ∈ Wall := inWall (by decide +kernel)
theorem l_X5_187 : .methodLink RX5 187 yX0_addToDigest ∈ Wall := inWall (by decide +kernel)
theorem l_X5_191 : .methodLink RX5 191 yX2_addThingsToDigest ∈ Wall := inWall (by decide +kernel)
theorem l_X5_195 : .methodLink RX5 195 yX2_isClient ∈ Wall := inWall (by decide +kernel)
theorem l_X5_204 : .methodLink RX5 204 yX5_isFile ∈ Wall ∨ (RX5, 204, yX5_isFile) ∈ nestM := Or.inl (inWall (by decide +kernel))
theorem k_L_7 : .constant RL 7 2147483647 ∈ Wall := inWall (by decide +kernel)
theorem k_L_8 : .constant RL 8 790386105 ∈ Wall := inWall (by decide +kernel)
theorem n_L_9 : nC RL 9 5 2 := ⟨RX5, TX5, rfl, inWall (by decide +kernel), inWall (by decide +kernel), inWall (by decide +kernel)⟩
theorem l_L_11 : .methodLink RL 11 yX5_init ∈ Wall ∨ (RL, 11, yX5_init) ∈ nestM := Or.inl (inWall (by decide +kernel))
theorem l_L_12 : .methodLink RL 12 yL_cell ∈ Wall ∨ (RL, 12, yL_cell) ∈ nestM := Or.inl (inWall (by decide +kernel))
theorem l_L_18 : .methodLink RL 18 yL_below ∈ Wall ∨ (RL, 18, yL_below) ∈ nestM := Or.inl (inWall (by decide +kernel))
theorem l_L_22 : .methodLink RL 22 yX5_addClient ∈ Wall := inWall (by decide +kernel)
theorem l_L_25 : .methodLink RL 25 yX5_has ∈ Wall := inWall (by decide +kernel)
theorem l_L_29 : .methodLink RL 29 yX5_read ∈ Wall := inWall (by decide +kernel)
theorem l_L_32 : .methodLink RL 32 yX5_used ∈ Wall := inWall (by decide +kernel)
theorem l_L_35 : .methodLink RL 35 yX5_write ∈ Wall := inWall (by decide +kernel)
theorem l_L_39 : .methodLink RL 39 yX5_cut ∈ Wall := inWall (by decide +kernel)
theorem l_L_43 : .methodLink RL 43 yX5_told ∈ Wall := inWall (by decide +kernel)
theorem l_L_46 : .methodLink RL 46 yX5_flush ∈ Wall := inWall (by decide +kernel)
theorem l_L_50 : .methodLink RL 50 yX5_setTerm ∈ Wall := inWall (by decide +kernel)
theorem l_L_53 : .methodLink RL 53 yX5_setRoom ∈ Wall := inWall (by decide +kernel)
theorem l_L_56 : .methodLink RL 56 yL_isTicked ∈ Wall ∨ (RL, 56, yL_isTicked) ∈ nestM := Or.inl (inWall (by decide +kernel))
theorem l_L_60 : .methodLink RL 60 yL_areClientsRight ∈ Wall ∨ (RL, 60, yL_areClientsRight) ∈ nestM := Or.inl (inWall (by decide +kernel))
theorem l_L_64 : .methodLink RL 64 yX5_digest ∈ Wall := inWall (by decide +kernel)
theorem l_L_68 : .methodLink RL 68 yX5_calmIn ∈ Wall := inWall (by decide +kernel)
theorem l_L_71 : .methodLink RL 71 yX5_contentIn ∈ Wall := inWall (by decide +kernel)
theorem l_L_74 : .methodLink RL 74 yX5_conflictsIn ∈ Wall := inWall (by decide +kernel)
theorem l_L_77 : .methodLink RL 77 yL_isWayRight ∈ Wall ∨ (RL, 77, yL_isWayRight) ∈ nestM := Or.inl (inWall (by decide +kernel))
theorem l_L_81 : .methodLink RL 81 yX5_clock ∈ Wall := inWall (by decide +kernel)
theorem l_L_85 : .methodLink RL 85 yX5_server ∈ Wall := inWall (by decide +kernel)
theorem l_L_88 : .methodLink RL 88 yX5_tick ∈ Wall := inWall (by decide +kernel)
theorem l_L_91 : .methodLink RL 91 yX5_onTheWay ∈ Wall := inWall (by decide +kernel)
theorem l_L_94 : .methodLink RL 94 yX5_clients ∈ Wall := inWall (by decide +kernel)
theorem l_L_97 : .methodLink RL 97 yX5_luck ∈ Wall := inWall (by decide +kernel)
theorem l_L_101 : .methodLink RL 101 yL_areUsedRight ∈ Wall ∨ (RL, 101, yL_areUsedRight) ∈ nestM := Or.inl (inWall (by decide +kernel))
theorem l_L_105 : .methodLink RL 105 yX5_stale ∈ Wall := inWall (by decide +kernel)
theorem l_L_108 : .methodLink RL 108 yX5_way ∈ Wall := inWall (by decide +kernel)
theorem arrI_in : .arrayClass .int ∈ Wall := inWall (by decide +kernel)
theorem v_X0_init : mI mX0_init 0 := ⟨⟨inWall (by decide +kernel), inWall (by decide +kernel), by decide +kernel, by decide +kernel, by decide +kernel, by decide⟩, inWall (by decide +kernel), rfl, rfl⟩
theorem v_X1_init : mI mX1_init 0 := ⟨⟨inWall (by decide +kernel), inWall (by decide +kernel), by decide +kernel, by decide +kernel, by decide +kernel, by decide⟩, inWall (by decide +kernel), rfl, rfl⟩
theorem v_X2_init : mI mX2_init 0 := ⟨⟨inWall (by decide +kernel), inWall (by decide +kernel), by decide +kernel, by decide +kernel, by decide +kernel, by decide⟩, inWall (by decide +kernel), rfl, rfl⟩
theorem v_X3_init : mI mX3_init 0 := ⟨⟨inWall (by decide +kernel), inWall (by decide +kernel), by decide +kernel, by decide +kernel, by decide +kernel, by decide⟩, inWall (by decide +kernel), rfl, rfl⟩
theorem v_X4_init : mI mX4_init 1 := ⟨⟨inWall (by decide +kernel), inWall (by decide +kernel), by decide +kernel, by decide +kernel, by decide +kernel, by decide⟩, inWall (by decide +kernel), rfl, rfl⟩
theorem v_X5_init : mI mX5_init 0 := ⟨⟨inWall (by decide +kernel), inWall (by decide +kernel), by decide +kernel, by decide +kernel, by decide +kernel, by decide⟩, inWall (by decide +kernel), rfl, rfl⟩
theorem v_J9_floorMod_7cf53 : mS mJ9_floorMod_7cf53 2 := ⟨⟨inWall (by decide +kernel), inWall (by decide +kernel), by decide +kernel, by decide +kernel, by decide +kernel, by decide⟩, inWall (by decide +kernel)⟩
theorem v_J9_max_7cf53 : mS mJ9_max_7cf53 2 := ⟨⟨inWall (by decide +kernel), inWall (by decide +kernel), by decide +kernel, by decide +kernel, by decide +kernel, by decide⟩, inWall (by decide +kernel)⟩
theorem v_L_areClientsRight : mS mL_areClientsRight 3 := ⟨⟨inWall (by decide +kernel), inWall (by decide +kernel), by decide +kernel, by decide +kernel, by decide +kernel, by decide⟩, inWall (by decide +kernel)⟩
theorem v_L_areUsedRight : mS mL_areUsedRight 3 := ⟨⟨inWall (by decide +kernel), inWall (by decide +kernel), by decide +kernel, by decide +kernel, by decide +kernel, by decide⟩, inWall (by decide +kernel)⟩
theorem v_L_below : mS mL_below 2 := ⟨⟨inWall (by decide +kernel), inWall (by decide +kernel), by decide +kernel, by decide +kernel, by decide +kernel, by decide⟩, inWall (by decide +kernel)⟩
theorem v_L_cell : mS mL_cell 2 := ⟨⟨inWall (by decide +kernel), inWall (by decide +kernel), by decide +kernel, by decide +kernel, by decide +kernel, by decide⟩, inWall (by decide +kernel)⟩
theorem v_L_isTicked : mS mL_isTicked 2 := ⟨⟨inWall (by decide +kernel), inWall (by decide +kernel), by decide +kernel, by decide +kernel, by decide +kernel, by decide⟩, inWall (by decide +kernel)⟩
theorem v_L_isWayRight : mS mL_isWayRight 1 := ⟨⟨inWall (by decide +kernel), inWall (by decide +kernel), by decide +kernel, by decide +kernel, by decide +kernel, by decide⟩, inWall (by decide +kernel)⟩
theorem v_X5_checkFile : mS mX5_checkFile 1 := ⟨⟨inWall (by decide +kernel), inWall (by decide +kernel), by decide +kernel, by decide +kernel, by decide +kernel, by decide⟩, inWall (by decide +kernel)⟩
theorem v_X5_checkPlace : mS mX5_checkPlace 2 := ⟨⟨inWall (by decide +kernel), inWall (by decide +kernel), by decide +kernel, by decide +kernel, by decide +kernel, by decide⟩, inWall (by decide +kernel)⟩
theorem v_X5_checkTicks : mS mX5_checkTicks 2 := ⟨⟨inWall (by decide +kernel), inWall (by decide +kernel), by decide +kernel, by decide +kernel, by decide +kernel, by decide⟩, inWall (by decide +kernel)⟩
theorem v_X5_checkWhat : mS mX5_checkWhat 2 := ⟨⟨inWall (by decide +kernel), inWall (by decide +kernel), by decide +kernel, by decide +kernel, by decide +kernel, by decide⟩, inWall (by decide +kernel)⟩
theorem v_X5_isFile : mS mX5_isFile 1 := ⟨⟨inWall (by decide +kernel), inWall (by decide +kernel), by decide +kernel, by decide +kernel, by decide +kernel, by decide⟩, inWall (by decide +kernel)⟩
theorem v_X0_addToDigest : mV mX0_addToDigest 0 2 := ⟨⟨inWall (by decide +kernel), inWall (by decide +kernel), by decide +kernel, by decide +kernel, by decide +kernel, by decide⟩, rfl, inWall (by decide +kernel), inWall (by decide +kernel)⟩
theorem v_X0_copyFrom : mV mX0_copyFrom 0 1 := ⟨⟨inWall (by decide +kernel), inWall (by decide +kernel), by decide +kernel, by decide +kernel, by decide +kernel, by decide⟩, rfl, inWall (by decide +kernel), inWall (by decide +kernel)⟩
theorem v_X0_cutLine : mV mX0_cutLine 0 0 := ⟨⟨inWall (by decide +kernel), inWall (by decide +kernel), by decide +kernel, by decide +kernel, by decide +kernel, by decide⟩, rfl, inWall (by decide +kernel), inWall (by decide +kernel)⟩
theorem v_X0_endLeases : mV mX0_endLeases 0 0 := ⟨⟨inWall (by decide +kernel), inWall (by decide +kernel), by decide +kernel, by decide +kernel, by decide +kernel, by decide⟩, rfl, inWall (by decide +kernel), inWall (by decide +kernel)⟩
theorem v_X0_isClean : mV mX0_isClean 0 0 := ⟨⟨inWall (by decide +kernel), inWall (by decide +kernel), by decide +kernel, by decide +kernel, by decide +kernel, by decide⟩, rfl, inWall (by decide +kernel), inWall (by decide +kernel)⟩
theorem v_X0_keepAside : mV mX0_keepAside 0 2 := ⟨⟨inWall (by decide +kernel), inWall (by decide +kernel), by decide +kernel, by decide +kernel, by decide +kernel, by decide⟩, rfl, inWall (by decide +kernel), inWall (by decide +kernel)⟩
theorem v_X0_letGo : mV mX0_letGo 0 1 := ⟨⟨inWall (by decide +kernel), inWall (by decide +kernel), by decide +kernel, by decide +kernel, by decide +kernel, by decide⟩, rfl, inWall (by decide +kernel), inWall (by decide +kernel)⟩
theorem v_X0_longestDirty : mV mX0_longestDirty 0 0 := ⟨⟨inWall (by decide +kernel), inWall (by decide +kernel), by decide +kernel, by decide +kernel, by decide +kernel, by decide⟩, rfl, inWall (by decide +kernel), inWall (by decide +kernel)⟩
theorem v_X0_makesRoom : mV mX0_makesRoom 0 1 := ⟨⟨inWall (by decide +kernel), inWall (by decide +kernel), by decide +kernel, by decide +kernel, by decide +kernel, by decide⟩, rfl, inWall (by decide +kernel), inWall (by decide +kernel)⟩
theorem v_X0_placeOf : mV mX0_placeOf 0 1 := ⟨⟨inWall (by decide +kernel), inWall (by decide +kernel), by decide +kernel, by decide +kernel, by decide +kernel, by decide⟩, rfl, inWall (by decide +kernel), inWall (by decide +kernel)⟩
theorem v_X0_takeCall : mV mX0_takeCall 0 1 := ⟨⟨inWall (by decide +kernel), inWall (by decide +kernel), by decide +kernel, by decide +kernel, by decide +kernel, by decide⟩, rfl, inWall (by decide +kernel), inWall (by decide +kernel)⟩
theorem v_X0_takeClash : mV mX0_takeClash 0 3 := ⟨⟨inWall (by decide +kernel), inWall (by decide +kernel), by decide +kernel, by decide +kernel, by decide +kernel, by decide⟩, rfl, inWall (by decide +kernel), inWall (by decide +kernel)⟩
theorem v_X0_takeGiven : mV mX0_takeGiven 0 5 := ⟨⟨inWall (by decide +kernel), inWall (by decide +kernel), by decide +kernel, by decide +kernel, by decide +kernel, by decide⟩, rfl, inWall (by decide +kernel), inWall (by decide +kernel)⟩
theorem v_X0_tell : mV mX0_tell 0 1 := ⟨⟨inWall (by decide +kernel), inWall (by decide +kernel), by decide +kernel, by decide +kernel, by decide +kernel, by decide⟩, rfl, inWall (by decide +kernel), inWall (by decide +kernel)⟩
theorem v_X0_use : mV mX0_use 0 1 := ⟨⟨inWall (by decide +kernel), inWall (by decide +kernel), by decide +kernel, by decide +kernel, by decide +kernel, by decide⟩, rfl, inWall (by decide +kernel), inWall (by decide +kernel)⟩
theorem v_X1_beGiven : mV mX1_beGiven 1 3 := ⟨⟨inWall (by decide +kernel), inWall (by decide +kernel), by decide +kernel, by decide +kernel, by decide +kernel, by decide⟩, rfl, inWall (by decide +kernel), inWall (by decide +kernel)⟩
theorem v_X1_beStored : mV mX1_beStored 1 3 := ⟨⟨inWall (by decide +kernel), inWall (by decide +kernel), by decide +kernel, by decide +kernel, by decide +kernel, by decide⟩, rfl, inWall (by decide +kernel), inWall (by decide +kernel)⟩
theorem v_X1_copyFrom : mV mX1_copyFrom 1 1 := ⟨⟨inWall (by decide +kernel), inWall (by decide +kernel), by decide +kernel, by decide +kernel, by decide +kernel, by decide⟩, rfl, inWall (by decide +kernel), inWall (by decide +kernel)⟩
theorem v_X1_isTrusted : mV mX1_isTrusted 1 2 := ⟨⟨inWall (by decide +kernel), inWall (by decide +kernel), by decide +kernel, by decide +kernel, by decide +kernel, by decide⟩, rfl, inWall (by decide +kernel), inWall (by decide +kernel)⟩
theorem v_X1_putContent : mV mX1_putContent 1 2 := ⟨⟨inWall (by decide +kernel), inWall (by decide +kernel), by decide +kernel, by decide +kernel, by decide +kernel, by decide⟩, rfl, inWall (by decide +kernel), inWall (by decide +kernel)⟩
theorem v_X1_tell : mV mX1_tell 1 3 := ⟨⟨inWall (by decide +kernel), inWall (by decide +kernel), by decide +kernel, by decide +kernel, by decide +kernel, by decide⟩, rfl, inWall (by decide +kernel), inWall (by decide +kernel)⟩
theorem v_X2_addThingsToDigest : mV mX2_addThingsToDigest 2 1 := ⟨⟨inWall (by decide +kernel), inWall (by decide +kernel), by decide +kernel, by decide +kernel, by decide +kernel, by decide⟩, rfl, inWall (by decide +kernel), inWall (by decide +kernel)⟩
theorem v_X2_answer : mV mX2_answer 2 2 := ⟨⟨inWall (by decide +kernel), inWall (by decide +kernel), by decide +kernel, by decide +kernel, by decide +kernel, by decide⟩, rfl, inWall (by decide +kernel), inWall (by decide +kernel)⟩
theorem v_X2_bring : mV mX2_bring 2 2 := ⟨⟨inWall (by decide +kernel), inWall (by decide +kernel), by decide +kernel, by decide +kernel, by decide +kernel, by decide⟩, rfl, inWall (by decide +kernel), inWall (by decide +kernel)⟩
theorem v_X2_callOthers : mV mX2_callOthers 2 2 := ⟨⟨inWall (by decide +kernel), inWall (by decide +kernel), by decide +kernel, by decide +kernel, by decide +kernel, by decide⟩, rfl, inWall (by decide +kernel), inWall (by decide +kernel)⟩
theorem v_X2_copyFrom : mV mX2_copyFrom 2 1 := ⟨⟨inWall (by decide +kernel), inWall (by decide +kernel), by decide +kernel, by decide +kernel, by decide +kernel, by decide⟩, rfl, inWall (by decide +kernel), inWall (by decide +kernel)⟩
theorem v_X2_isCalm : mV mX2_isCalm 2 0 := ⟨⟨inWall (by decide +kernel), inWall (by decide +kernel), by decide +kernel, by decide +kernel, by decide +kernel, by decide⟩, rfl, inWall (by decide +kernel), inWall (by decide +kernel)⟩
theorem v_X2_isClient : mV mX2_isClient 2 1 := ⟨⟨inWall (by decide +kernel), inWall (by decide +kernel), by decide +kernel, by decide +kernel, by decide +kernel, by decide⟩, rfl, inWall (by decide +kernel), inWall (by decide +kernel)⟩
theorem v_X2_join : mV mX2_join 2 2 := ⟨⟨inWall (by decide +kernel), inWall (by decide +kernel), by decide +kernel, by decide +kernel, by decide +kernel, by decide⟩, rfl, inWall (by decide +kernel), inWall (by decide +kernel)⟩
theorem v_X2_lookAtFirst : mV mX2_lookAtFirst 2 1 := ⟨⟨inWall (by decide +kernel), inWall (by decide +kernel), by decide +kernel, by decide +kernel, by decide +kernel, by decide⟩, rfl, inWall (by decide +kernel), inWall (by decide +kernel)⟩
theorem v_X2_mendLine : mV mX2_mendLine 2 1 := ⟨⟨inWall (by decide +kernel), inWall (by decide +kernel), by decide +kernel, by decide +kernel, by decide +kernel, by decide⟩, rfl, inWall (by decide +kernel), inWall (by decide +kernel)⟩
theorem v_X2_passTick : mV mX2_passTick 2 0 := ⟨⟨inWall (by decide +kernel), inWall (by decide +kernel), by decide +kernel, by decide +kernel, by decide +kernel, by decide⟩, rfl, inWall (by decide +kernel), inWall (by decide +kernel)⟩
theorem v_X2_reach : mV mX2_reach 2 2 := ⟨⟨inWall (by decide +kernel), inWall (by decide +kernel), by decide +kernel, by decide +kernel, by decide +kernel, by decide⟩, rfl, inWall (by decide +kernel), inWall (by decide +kernel)⟩
theorem v_X2_send : mV mX2_send 2 6 := ⟨⟨inWall (by decide +kernel), inWall (by decide +kernel), by decide +kernel, by decide +kernel, by decide +kernel, by decide⟩, rfl, inWall (by decide +kernel), inWall (by decide +kernel)⟩
theorem v_X2_sendDirty : mV mX2_sendDirty 2 2 := ⟨⟨inWall (by decide +kernel), inWall (by decide +kernel), by decide +kernel, by decide +kernel, by decide +kernel, by decide⟩, rfl, inWall (by decide +kernel), inWall (by decide +kernel)⟩
theorem v_X2_sendStore : mV mX2_sendStore 2 2 := ⟨⟨inWall (by decide +kernel), inWall (by decide +kernel), by decide +kernel, by decide +kernel, by decide +kernel, by decide⟩, rfl, inWall (by decide +kernel), inWall (by decide +kernel)⟩
theorem v_X2_slotAt : mV mX2_slotAt 2 1 := ⟨⟨inWall (by decide +kernel), inWall (by decide +kernel), by decide +kernel, by decide +kernel, by decide +kernel, by decide⟩, rfl, inWall (by decide +kernel), inWall (by decide +kernel)⟩
theorem v_X2_staleCount : mV mX2_staleCount 2 0 := ⟨⟨inWall (by decide +kernel), inWall (by decide +kernel), by decide +kernel, by decide +kernel, by decide +kernel, by decide⟩, rfl, inWall (by decide +kernel), inWall (by decide +kernel)⟩
theorem v_X2_tellThing : mV mX2_tellThing 2 2 := ⟨⟨inWall (by decide +kernel), inWall (by decide +kernel), by decide +kernel, by decide +kernel, by decide +kernel, by decide⟩, rfl, inWall (by decide +kernel), inWall (by decide +kernel)⟩
theorem v_X2_thingCount : mV mX2_thingCount 2 0 := ⟨⟨inWall (by decide +kernel), inWall (by decide +kernel), by decide +kernel, by decide +kernel, by decide +kernel, by decide⟩, rfl, inWall (by decide +kernel), inWall (by decide +kernel)⟩
theorem v_X3_addRequest : mV mX3_addRequest 3 4 := ⟨⟨inWall (by decide +kernel), inWall (by decide +kernel), by decide +kernel, by decide +kernel, by decide +kernel, by decide⟩, rfl, inWall (by decide +kernel), inWall (by decide +kernel)⟩
theorem v_X3_copyFrom : mV mX3_copyFrom 3 1 := ⟨⟨inWall (by decide +kernel), inWall (by decide +kernel), by decide +kernel, by decide +kernel, by decide +kernel, by decide⟩, rfl, inWall (by decide +kernel), inWall (by decide +kernel)⟩
theorem v_X3_hasToWait : mV mX3_hasToWait 3 2 := ⟨⟨inWall (by decide +kernel), inWall (by decide +kernel), by decide +kernel, by decide +kernel, by decide +kernel, by decide⟩, rfl, inWall (by decide +kernel), inWall (by decide +kernel)⟩
theorem v_X3_isLeased : mV mX3_isLeased 3 2 := ⟨⟨inWall (by decide +kernel), inWall (by decide +kernel), by decide +kernel, by decide +kernel, by decide +kernel, by decide⟩, rfl, inWall (by decide +kernel), inWall (by decide +kernel)⟩
theorem v_X3_leasedSet : mV mX3_leasedSet 3 1 := ⟨⟨inWall (by decide +kernel), inWall (by decide +kernel), by decide +kernel, by decide +kernel, by decide +kernel, by decide⟩, rfl, inWall (by decide +kernel), inWall (by decide +kernel)⟩
theorem v_X3_tell : mV mX3_tell 3 2 := ⟨⟨inWall (by decide +kernel), inWall (by decide +kernel), by decide +kernel, by decide +kernel, by decide +kernel, by decide⟩, rfl, inWall (by decide +kernel), inWall (by decide +kernel)⟩
theorem v_X4_addRow : mV mX4_addRow 4 0 := ⟨⟨inWall (by decide +kernel), inWall (by decide +kernel), by decide +kernel, by decide +kernel, by decide +kernel, by decide⟩, rfl, inWall (by decide +kernel), inWall (by decide +kernel)⟩
theorem v_X4_copyFrom : mV mX4_copyFrom 4 1 := ⟨⟨inWall (by decide +kernel), inWall (by decide +kernel), by decide +kernel, by decide +kernel, by decide +kernel, by decide⟩, rfl, inWall (by decide +kernel), inWall (by decide +kernel)⟩
theorem v_X4_dropFirst : mV mX4_dropFirst 4 1 := ⟨⟨inWall (by decide +kernel), inWall (by decide +kernel), by decide +kernel, by decide +kernel, by decide +kernel, by decide⟩, rfl, inWall (by decide +kernel), inWall (by decide +kernel)⟩
theorem v_X4_get : mV mX4_get 4 2 := ⟨⟨inWall (by decide +kernel), inWall (by decide +kernel), by decide +kernel, by decide +kernel, by decide +kernel, by decide⟩, rfl, inWall (by decide +kernel), inWall (by decide +kernel)⟩
theorem v_X4_isCell : mV mX4_isCell 4 2 := ⟨⟨inWall (by decide +kernel), inWall (by decide +kernel), by decide +kernel, by decide +kernel, by decide +kernel, by decide⟩, rfl, inWall (by decide +kernel), inWall (by decide +kernel)⟩
theorem v_X4_put : mV mX4_put 4 3 := ⟨⟨inWall (by decide +kernel), inWall (by decide +kernel), by decide +kernel, by decide +kernel, by decide +kernel, by decide⟩, rfl, inWall (by decide +kernel), inWall (by decide +kernel)⟩
theorem v_X5_addClient : mV mX5_addClient 5 2 := ⟨⟨inWall (by decide +kernel), inWall (by decide +kernel), by decide +kernel, by decide +kernel, by decide +kernel, by decide⟩, rfl, inWall (by decide +kernel), inWall (by decide +kernel)⟩
theorem v_X5_calmIn : mV mX5_calmIn 5 1 := ⟨⟨inWall (by decide +kernel), inWall (by decide +kernel), by decide +kernel, by decide +kernel, by decide +kernel, by decide⟩, rfl, inWall (by decide +kernel), inWall (by decide +kernel)⟩
theorem v_X5_checkClient : mV mX5_checkClient 5 1 := ⟨⟨inWall (by decide +kernel), inWall (by decide +kernel), by decide +kernel, by decide +kernel, by decide +kernel, by decide⟩, rfl, inWall (by decide +kernel), inWall (by decide +kernel)⟩
theorem v_X5_clients : mV mX5_clients 5 0 := ⟨⟨inWall (by decide +kernel), inWall (by decide +kernel), by decide +kernel, by decide +kernel, by decide +kernel, by decide⟩, rfl, inWall (by decide +kernel), inWall (by decide +kernel)⟩
theorem v_X5_clock : mV mX5_clock 5 0 := ⟨⟨inWall (by decide +kernel), inWall (by decide +kernel), by decide +kernel, by decide +kernel, by decide +kernel, by decide⟩, rfl, inWall (by decide +kernel), inWall (by decide +kernel)⟩
theorem v_X5_conflictsIn : mV mX5_conflictsIn 5 2 := ⟨⟨inWall (by decide +kernel), inWall (by decide +kernel), by decide +kernel, by decide +kernel, by decide +kernel, by decide⟩, rfl, inWall (by decide +kernel), inWall (by decide +kernel)⟩
theorem v_X5_contentIn : mV mX5_contentIn 5 2 := ⟨⟨inWall (by decide +kernel), inWall (by decide +kernel), by decide +kernel, by decide +kernel, by decide +kernel, by decide⟩, rfl, inWall (by decide +kernel), inWall (by decide +kernel)⟩
theorem v_X5_cut : mV mX5_cut 5 2 := ⟨⟨inWall (by decide +kernel), inWall (by decide +kernel), by decide +kernel, by decide +kernel, by decide +kernel, by decide⟩, rfl, inWall (by decide +kernel), inWall (by decide +kernel)⟩
theorem v_X5_digest : mV mX5_digest 5 0 := ⟨⟨inWall (by decide +kernel), inWall (by decide +kernel), by decide +kernel, by decide +kernel, by decide +kernel, by decide⟩, rfl, inWall (by decide +kernel), inWall (by decide +kernel)⟩
theorem v_X5_flush : mV mX5_flush 5 1 := ⟨⟨inWall (by decide +kernel), inWall (by decide +kernel), by decide +kernel, by decide +kernel, by decide +kernel, by decide⟩, rfl, inWall (by decide +kernel), inWall (by decide +kernel)⟩
theorem v_X5_has : mV mX5_has 5 3 := ⟨⟨inWall (by decide +kernel), inWall (by decide +kernel), by decide +kernel, by decide +kernel, by decide +kernel, by decide⟩, rfl, inWall (by decide +kernel), inWall (by decide +kernel)⟩
theorem v_X5_luck : mV mX5_luck 5 1 := ⟨⟨inWall (by decide +kernel), inWall (by decide +kernel), by decide +kernel, by decide +kernel, by decide +kernel, by decide⟩, rfl, inWall (by decide +kernel), inWall (by decide +kernel)⟩
theorem v_X5_onTheWay : mV mX5_onTheWay 5 0 := ⟨⟨inWall (by decide +kernel), inWall (by decide +kernel), by decide +kernel, by decide +kernel, by decide +kernel, by decide⟩, rfl, inWall (by decide +kernel), inWall (by decide +kernel)⟩
theorem v_X5_read : mV mX5_read 5 2 := ⟨⟨inWall (by decide +kernel), inWall (by decide +kernel), by decide +kernel, by decide +kernel, by decide +kernel, by decide⟩, rfl, inWall (by decide +kernel), inWall (by decide +kernel)⟩
theorem v_X5_server : mV mX5_server 5 2 := ⟨⟨inWall (by decide +kernel), inWall (by decide +kernel), by decide +kernel, by decide +kernel, by decide +kernel, by decide⟩, rfl, inWall (by decide +kernel), inWall (by decide +kernel)⟩
theorem v_X5_setRoom : mV mX5_setRoom 5 1 := ⟨⟨inWall (by decide +kernel), inWall (by decide +kernel), by decide +kernel, by decide +kernel, by decide +kernel, by decide⟩, rfl, inWall (by decide +kernel), inWall (by decide +kernel)⟩
theorem v_X5_setTerm : mV mX5_setTerm 5 2 := ⟨⟨inWall (by decide +kernel), inWall (by decide +kernel), by decide +kernel, by decide +kernel, by decide +kernel, by decide⟩, rfl, inWall (by decide +kernel), inWall (by decide +kernel)⟩
theorem v_X5_stale : mV mX5_stale 5 0 := ⟨⟨inWall (by decide +kernel), inWall (by decide +kernel), by decide +kernel, by decide +kernel, by decide +kernel, by decide⟩, rfl, inWall (by decide +kernel), inWall (by decide +kernel)⟩
theorem v_X5_tick : mV mX5_tick 5 1 := ⟨⟨inWall (by decide +kernel), inWall (by decide +kernel), by decide +kernel, by decide +kernel, by decide +kernel, by decide⟩, rfl, inWall (by decide +kernel), inWall (by decide +kernel)⟩
theorem v_X5_told : mV mX5_told 5 2 := ⟨⟨inWall (by decide +kernel), inWall (by decide +kernel), by decide +kernel, by decide +kernel, by decide +kernel, by decide⟩, rfl, inWall (by decide +kernel), inWall (by decide +kernel)⟩
theorem v_X5_used : mV mX5_used 5 2 := ⟨⟨inWall (by decide +kernel), inWall (by decide +kernel), by decide +kernel, by decide +kernel, by decide +kernel, by decide⟩, rfl, inWall (by decide +kernel), inWall (by decide +kernel)⟩
theorem v_X5_way : mV mX5_way 5 2 := ⟨⟨inWall (by decide +kernel), inWall (by decide +kernel), by decide +kernel, by decide +kernel, by decide +kernel, by decide⟩, rfl, inWall (by decide +kernel), inWall (by decide +kernel)⟩
theorem v_X5_write : mV mX5_write 5 3 := ⟨⟨inWall (by decide +kernel), inWall (by decide +kernel), by decide +kernel, by decide +kernel, by decide +kernel, by decide⟩, rfl, inWall (by decide +kernel), inWall (by decide +kernel)⟩
end
section
theorem fm_X2_53 : fmL RX2 53 := ⟨inWall (by decide +kernel), inWall (by decide +kernel), inWall (by decide +kernel), inWall (by decide +kernel)⟩
theorem mx_X4_9 : mxL RX4 9 := ⟨inWall (by decide +kernel), inWall (by decide +kernel), inWall (by decide +kernel), inWall (by decide +kernel)⟩
end
section
/-! ===== the state: what the heap holds, in numbers. Two nets (0: net, 1: trial), at the places where the constructor puts them ===== -/
/-- where a row of numbers lies. 0: a Net; 1: a Client (a); 2: a Held (a, b); 3: order (a); 4: a Shelf (a); 5: until (a) -/
def xi (g n a b : Nat) : Nat := match g with
  | 0 => 2 + 138 * n
  | 1 => 6 + 138 * n + 17 * a
  | 2 => 11 + 138 * n + 17 * a + b
  | 3 => 8 + 138 * n + 17 * a
  | 4 => 74 + 138 * n + 4 * a
  | _ => 75 + 138 * n + 4 * a
/-- where a table lies. 0: kept (a); 1: requests (a); 2: a slot (a) -/
def xt (y n a : Nat) : Nat := match y with
  | 0 => 9 + 138 * n + 17 * a
  | 1 => 76 + 138 * n + 4 * a
  | _ => 122 + 138 * n + 2 * a
def tw (y : Nat) : Nat := match y with
  | 0 => 2
  | 1 => 4
  | _ => 8
def vs (g n a b k : Nat) : Prop := n < 2 ∧ match g with
  | 0 => a = 0 ∧ b = 0 ∧ k < 5
  | 1 => a < 4 ∧ b = 0 ∧ (k = 2 ∨ (4 ≤ k ∧ k < 12))
  | 2 => a < 4 ∧ b < 12 ∧ k < 8
  | 3 => a < 4 ∧ b = 0 ∧ k < 12
  | 4 => a < 12 ∧ b = 0 ∧ (k < 2 ∨ k = 4)
  | 5 => a < 12 ∧ b = 0 ∧ k < 4
  | _ => False
def vt (y n a : Nat) : Prop := n < 2 ∧ match y with
  | 0 => a < 4
  | 1 => a < 12
  | 2 => a < 9
  | _ => False
abbrev rC (n : Nat) : Nat := 3 + 138 * n
abbrev rS (n : Nat) : Nat := 4 + 138 * n
abbrev rT (n : Nat) : Nat := 5 + 138 * n
abbrev rF (n c : Nat) : Nat := 7 + 138 * n + 17 * c
abbrev Row : Type := Nat → Int32
/-- cells made, slots in them, the numbers, the tables (rows, room for rows), arrays of the caller's own -/
abbrev MS : Type := Nat × Nat × (Nat → Nat → Nat → Nat → Nat → Int32) × (Nat → Nat → Nat → List Row × Nat) × (Nat → Option (Nat × (Nat → Int32)))
abbrev mz (M : MS) : Nat := M.1
abbrev mt (M : MS) : Nat := M.2.1
abbrev gV (M : MS) (g n a b k : Nat) : Int32 := M.2.2.1 g n a b k
abbrev gT (M : MS) (y n a : Nat) : List Row := (M.2.2.2.1 y n a).1
abbrev gP (M : MS) (y n a : Nat) : Nat := (M.2.2.2.1 y n a).2
abbrev gX (M : MS) (i : Nat) : Option (Nat × (Nat → Int32)) := M.2.2.2.2 i
def sV (M : MS) (g n a b k : Nat) (v : Int32) : MS := (M.1, M.2.1, (fun g' n' a' b' k' => if g' = g ∧ n' = n ∧ a' = a ∧ b' = b ∧ k' = k then v else M.2.2.1 g' n' a' b' k'), M.2.2.2.1, M.2.2.2.2)
def sT (M : MS) (y n a : Nat) (r : List Row) : MS := (M.1, M.2.1, M.2.2.1, (fun y' n' a' => if y' = y ∧ n' = n ∧ a' = a then (r, (M.2.2.2.1 y n a).2) else M.2.2.2.1 y' n' a'), M.2.2.2.2)
/-- the class of a row of numbers, its fields -/
def ck (g : Nat) : Nat := match g with
  | 0 => 2
  | 1 => 0
  | 2 => 1
  | _ => 3
def nk (g : Nat) : Nat := match g with
  | 0 => 8
  | 1 => 12
  | 2 => 8
  | _ => 5
/-- a number that may stand there (a boolean is 0 or 1) -/
def okg (g k : Nat) (v : Int32) : Prop := g = 3 ∨ g = 5 ∨ okf (ck g) k (.int v)
def aix (hp : AH) (i : Nat) : Nat := match hv hp i 1 with
  | .ref a => a
  | _ => 0
def ShO (hp : AH) : Prop := hk hp 1 = (5, 2) ∧ hv hp 1 0 = .ref 2 ∧ hv hp 1 1 = .ref 140
def ShN (hp : AH) (n : Nat) : Prop := hk hp (xi 0 n 0 0) = (2, 8) ∧ hv hp (xi 0 n 0 0) 5 = .ref (rC n) ∧ hv hp (xi 0 n 0 0) 6 = .ref (rS n) ∧ hv hp (xi 0 n 0 0) 7 = .ref (rT n) ∧ hk hp (rC n) = (7, 4) ∧ hk hp (rS n) = (9, 12) ∧ hk hp (rT n) = (10, 9)
def ShC (hp : AH) (n c : Nat) : Prop := hv hp (rC n) c = .ref (xi 1 n c 0) ∧ hk hp (xi 1 n c 0) = (0, 12) ∧ hv hp (xi 1 n c 0) 0 = .ref (rF n c) ∧ hv hp (xi 1 n c 0) 1 = .ref (xi 3 n c 0) ∧ hv hp (xi 1 n c 0) 3 = .ref (xt 0 n c) ∧ hk hp (rF n c) = (8, 12) ∧ hk hp (xi 3 n c 0) = (6, 12)
def ShH (hp : AH) (n c f : Nat) : Prop := hv hp (rF n c) f = .ref (xi 2 n c f) ∧ hk hp (xi 2 n c f) = (1, 8)
def ShS (hp : AH) (n f : Nat) : Prop := hv hp (rS n) f = .ref (xi 4 n f 0) ∧ hk hp (xi 4 n f 0) = (3, 5) ∧ hv hp (xi 4 n f 0) 2 = .ref (xi 5 n f 0) ∧ hv hp (xi 4 n f 0) 3 = .ref (xt 1 n f) ∧ hk hp (xi 5 n f 0) = (6, 4)
/-- a table as the heap holds it: its array (where it was made, or later), all ints, the rows as listed -/
def TabAt (hp : AH) (i w : Nat) (r : List Row) (cap : Nat) : Prop := hk hp i = (4, 3) ∧ hv hp i 0 = .int (nI w) ∧ hv hp i 2 = .int (nI r.length) ∧ hv hp i 1 = .ref (aix hp i) ∧ (aix hp i = i + 1 ∨ 278 ≤ aix hp i) ∧ aix hp i ≤ hsz hp ∧ hk hp (aix hp i) = (6, w * cap) ∧ r.length ≤ cap ∧ cap ≤ 140000 ∧ (∀ j, j < w * cap → ∃ x, hv hp (aix hp i) j = .int x) ∧ ∀ (k : Nat) (q : Row), r[k]? = some q → ∀ c, c < w → hv hp (aix hp i) (k * w + c) = .int (q c)
def Rep (hp : AH) (M : MS) : Prop :=
  277 ≤ hsz hp ∧ hsz hp = mz M ∧ htot hp = mt M ∧ ShO hp ∧ (∀ n, n < 2 → ShN hp n) ∧ (∀ n c, n < 2 → c < 4 → ShC hp n c) ∧ (∀ n c f, n < 2 → c < 4 → f < 12 → ShH hp n c f) ∧ (∀ n f, n < 2 → f < 12 → ShS hp n f) ∧ (∀ n k, n < 2 → k < 9 → hv hp (rT n) k = .ref (xt 2 n k)) ∧
  (∀ g n a b k, vs g n a b k → hv hp (xi g n a b) k = .int (gV M g n a b k) ∧ okg g k (gV M g n a b k)) ∧
  (∀ y n a, vt y n a → TabAt hp (xt y n a) (tw y) (gT M y n a) (gP M y n a)) ∧
  (∀ y n a y' n' a', vt y n a → vt y' n' a' → aix hp (xt y n a) = aix hp (xt y' n' a') → y = y' ∧ n = n' ∧ a = a') ∧
  (∀ i l f, gX M i = some (l, f) → 278 ≤ i ∧ i ≤ hsz hp ∧ hk hp i = (6, l) ∧ (∀ k, k < l → hv hp i k = .int (f k)) ∧ ∀ y n a, vt y n a → aix hp (xt y n a) ≠ i)
theorem xi_le {g n a b k : Nat} (h : vs g n a b k) : 1 ≤ xi g n a b ∧ xi g n a b ≤ 277 := by
  obtain ⟨h1, h2⟩ := h
  match g, h2 with
  | 0, h2 => have h2 : a = 0 ∧ b = 0 ∧ k < 5 := h2; simp only [xi]; omega
  | 1, h2 => have h2 : a < 4 ∧ b = 0 ∧ (k = 2 ∨ (4 ≤ k ∧ k < 12)) := h2; simp only [xi]; omega
  | 2, h2 => have h2 : a < 4 ∧ b < 12 ∧ k < 8 := h2; simp only [xi]; omega
  | 3, h2 => have h2 : a < 4 ∧ b = 0 ∧ k < 12 := h2; simp only [xi]; omega
  | 4, h2 => have h2 : a < 12 ∧ b = 0 ∧ (k < 2 ∨ k = 4) := h2; simp only [xi]; omega
  | 5, h2 => have h2 : a < 12 ∧ b = 0 ∧ k < 4 := h2; simp only [xi]; omega
  | n + 6, h2 => exact h2.elim
theorem xt_le {y n a : Nat} (h : vt y n a) : 1 ≤ xt y n a ∧ xt y n a + 1 ≤ 277 := by
  obtain ⟨h1, h2⟩ := h
  match y, h2 with
  | 0, h2 => have h2 : a < 4 := h2; simp only [xt]; omega
  | 1, h2 => have h2 : a < 12 := h2; simp only [xt]; omega
  | 2, h2 => have h2 : a < 9 := h2; simp only [xt]; omega
  | n + 3, h2 => exact h2.elim
/-- the rows of numbers lie apart -/
theorem xi_inj {g n a b k g' n' a' b' k' : Nat} (h : vs g n a b k) (h' : vs g' n' a' b' k') (e : xi g n a b = xi g' n' a' b') : g = g' ∧ n = n' ∧ a = a' ∧ b = b' := by
  obtain ⟨h1, h2⟩ := h
  obtain ⟨h3, h4⟩ := h'
  match g, g', h2, h4 with
  | 0, 0, h2, h4 => have h2 : a = 0 ∧ b = 0 ∧ k < 5 := h2; have h4 : a' = 0 ∧ b' = 0 ∧ k' < 5 := h4; simp only [xi] at e; rcases (show n = 0 ∨ n = 1 by omega) with rfl | rfl <;> rcases (show n' = 0 ∨ n' = 1 by omega) with rfl | rfl <;> omega
  | 0, 1, h2, h4 => have h2 : a = 0 ∧ b = 0 ∧ k < 5 := h2; have h4 : a' < 4 ∧ b' = 0 ∧ (k' = 2 ∨ (4 ≤ k' ∧ k' < 12)) := h4; simp only [xi] at e; rcases (show n = 0 ∨ n = 1 by omega) with rfl | rfl <;> rcases (show n' = 0 ∨ n' = 1 by omega) with rfl | rfl <;> omega
  | 0, 2, h2, h4 => have h2 : a = 0 ∧ b = 0 ∧ k < 5 := h2; have h4 : a' < 4 ∧ b' < 12 ∧ k' < 8 := h4; simp only [xi] at e; rcases (show n = 0 ∨ n = 1 by omega) with rfl | rfl <;> rcases (show n' = 0 ∨ n' = 1 by omega) with rfl | rfl <;> omega
  | 0, 3, h2, h4 => have h2 : a = 0 ∧ b = 0 ∧ k < 5 := h2; have h4 : a' < 4 ∧ b' = 0 ∧ k' < 12 := h4; simp only [xi] at e; rcases (show n = 0 ∨ n = 1 by omega) with rfl | rfl <;> rcases (show n' = 0 ∨ n' = 1 by omega) with rfl | rfl <;> omega
  | 0, 4, h2, h4 => have h2 : a = 0 ∧ b = 0 ∧ k < 5 := h2; have h4 : a' < 12 ∧ b' = 0 ∧ (k' < 2 ∨ k' = 4) := h4; simp only [xi] at e; rcases (show n = 0 ∨ n = 1 by omega) with rfl | rfl <;> rcases (show n' = 0 ∨ n' = 1 by omega) with rfl | rfl <;> omega
  | 0, 5, h2, h4 => have h2 : a = 0 ∧ b = 0 ∧ k < 5 := h2; have h4 : a' < 12 ∧ b' = 0 ∧ k' < 4 := h4; simp only [xi] at e; rcases (show n = 0 ∨ n = 1 by omega) with rfl | rfl <;> rcases (show n' = 0 ∨ n' = 1 by omega) with rfl | rfl <;> omega
  | 1, 0, h2, h4 => have h2 : a < 4 ∧ b = 0 ∧ (k = 2 ∨ (4 ≤ k ∧ k < 12)) := h2; have h4 : a' = 0 ∧ b' = 0 ∧ k' < 5 := h4; simp only [xi] at e; rcases (show n = 0 ∨ n = 1 by omega) with rfl | rfl <;> rcases (show n' = 0 ∨ n' = 1 by omega) with rfl | rfl <;> omega
  | 1, 1, h2, h4 => have h2 : a < 4 ∧ b = 0 ∧ (k = 2 ∨ (4 ≤ k ∧ k < 12)) := h2; have h4 : a' < 4 ∧ b' = 0 ∧ (k' = 2 ∨ (4 ≤ k' ∧ k' < 12)) := h4; simp only [xi] at e; rcases (show n = 0 ∨ n = 1 by omega) with rfl | rfl <;> rcases (show n' = 0 ∨ n' = 1 by omega) with rfl | rfl <;> omega
  | 1, 2, h2, h4 => have h2 : a < 4 ∧ b = 0 ∧ (k = 2 ∨ (4 ≤ k ∧ k < 12)) := h2; have h4 : a' < 4 ∧ b' < 12 ∧ k' < 8 := h4; simp only [xi] at e; rcases (show n = 0 ∨ n = 1 by omega) with rfl | rfl <;> rcases (show n' = 0 ∨ n' = 1 by omega) with rfl | rfl <;> omega
  | 1, 3, h2, h4 => have h2 : a < 4 ∧ b = 0 ∧ (k = 2 ∨ (4 ≤ k ∧ k < 12)) := h2; have h4 : a' < 4 ∧ b' = 0 ∧ k' < 12 := h4; simp only [xi] at e; rcases (show n = 0 ∨ n = 1 by omega) with rfl | rfl <;> rcases (show n' = 0 ∨ n' = 1 by omega) with rfl | rfl <;> omega
  | 1, 4, h2, h4 => have h2 : a < 4 ∧ b = 0 ∧ (k = 2 ∨ (4 ≤ k ∧ k < 12)) := h2; have h4 : a' < 12 ∧ b' = 0 ∧ (k' < 2 ∨ k' = 4) := h4; simp only [xi] at e; rcases (show n = 0 ∨ n = 1 by omega) with rfl | rfl <;> rcases (show n' = 0 ∨ n' = 1 by omega) with rfl | rfl <;> omega
  | 1, 5, h2, h4 => have h2 : a < 4 ∧ b = 0 ∧ (k = 2 ∨ (4 ≤ k ∧ k < 12)) := h2; have h4 : a' < 12 ∧ b' = 0 ∧ k' < 4 := h4; simp only [xi] at e; rcases (show n = 0 ∨ n = 1 by omega) with rfl | rfl <;> rcases (show n' = 0 ∨ n' = 1 by omega) with rfl | rfl <;> omega
  | 2, 0, h2, h4 => have h2 : a < 4 ∧ b < 12 ∧ k < 8 := h2; have h4 : a' = 0 ∧ b' = 0 ∧ k' < 5 := h4; simp only [xi] at e; rcases (show n = 0 ∨ n = 1 by omega) with rfl | rfl <;> rcases (show n' = 0 ∨ n' = 1 by omega) with rfl | rfl <;> omega
  | 2, 1, h2, h4 => have h2 : a < 4 ∧ b < 12 ∧ k < 8 := h2; have h4 : a' < 4 ∧ b' = 0 ∧ (k' = 2 ∨ (4 ≤ k' ∧ k' < 12)) := h4; simp only [xi] at e; rcases (show n = 0 ∨ n = 1 by omega) with rfl | rfl <;> rcases (show n' = 0 ∨ n' = 1 by omega) with rfl | rfl <;> omega
  | 2, 2, h2, h4 => have h2 : a < 4 ∧ b < 12 ∧ k < 8 := h2; have h4 : a' < 4 ∧ b' < 12 ∧ k' < 8 := h4; simp only [xi] at e; rcases (show n = 0 ∨ n = 1 by omega) with rfl | rfl <;> rcases (show n' = 0 ∨ n' = 1 by omega) with rfl | rfl <;> omega
  | 2, 3, h2, h4 => have h2 : a < 4 ∧ b < 12 ∧ k < 8 := h2; have h4 : a' < 4 ∧ b' = 0 ∧ k' < 12 := h4; simp only [xi] at e; rcases (show n = 0 ∨ n = 1 by omega) with rfl | rfl <;> rcases (show n' = 0 ∨ n' = 1 by omega) with rfl | rfl <;> omega
  | 2, 4, h2, h4 => have h2 : a < 4 ∧ b < 12 ∧ k < 8 := h2; have h4 : a' < 12 ∧ b' = 0 ∧ (k' < 2 ∨ k' = 4) := h4; simp only [xi] at e; rcases (show n = 0 ∨ n = 1 by omega) with rfl | rfl <;> rcases (show n' = 0 ∨ n' = 1 by omega) with rfl | rfl <;> omega
  | 2, 5, h2, h4 => have h2 : a < 4 ∧ b < 12 ∧ k < 8 := h2; have h4 : a' < 12 ∧ b' = 0 ∧ k' < 4 := h4; simp only [xi] at e; rcases (show n = 0 ∨ n = 1 by omega) with rfl | rfl <;> rcases (show n' = 0 ∨ n' = 1 by omega) with rfl | rfl <;> omega
  | 3, 0, h2, h4 => have h2 : a < 4 ∧ b = 0 ∧ k < 12 := h2; have h4 : a' = 0 ∧ b' = 0 ∧ k' < 5 := h4; simp only [xi] at e; rcases (show n = 0 ∨ n = 1 by omega) with rfl | rfl <;> rcases (show n' = 0 ∨ n' = 1 by omega) with rfl | rfl <;> omega
  | 3, 1, h2, h4 => have h2 : a < 4 ∧ b = 0 ∧ k < 12 := h2; have h4 : a' < 4 ∧ b' = 0 ∧ (k' = 2 ∨ (4 ≤ k' ∧ k' < 12)) := h4; simp only [xi] at e; rcases (show n = 0 ∨ n = 1 by omega) with rfl | rfl <;> rcases (show n' = 0 ∨ n' = 1 by omega) with rfl | rfl <;> omega
  | 3, 2, h2, h4 => have h2 : a < 4 ∧ b = 0 ∧ k < 12 := h2; have h4 : a' < 4 ∧ b' < 12 ∧ k' < 8 := h4; simp only [xi] at e; rcases (show n = 0 ∨ n = 1 by omega) with rfl | rfl <;> rcases (show n' = 0 ∨ n' = 1 by omega) with rfl | rfl <;> omega
  | 3, 3, h2, h4 => have h2 : a < 4 ∧ b = 0 ∧ k < 12 := h2; have h4 : a' < 4 ∧ b' = 0 ∧ k' < 12 := h4; simp only [xi] at e; rcases (show n = 0 ∨ n = 1 by omega) with rfl | rfl <;> rcases (show n' = 0 ∨ n' = 1 by omega) with rfl | rfl <;> omega
  | 3, 4, h2, h4 => have h2 : a < 4 ∧ b = 0 ∧ k < 12 := h2; have h4 : a' < 12 ∧ b' = 0 ∧ (k' < 2 ∨ k' = 4) := h4; simp only [xi] at e; rcases (show n = 0 ∨ n = 1 by omega) with rfl | rfl <;> rcases (show n' = 0 ∨ n' = 1 by omega) with rfl | rfl <;> omega
  | 3, 5, h2, h4 => have h2 : a < 4 ∧ b = 0 ∧ k < 12 := h2; have h4 : a' < 12 ∧ b' = 0 ∧ k' < 4 := h4; simp only [xi] at e; rcases (show n = 0 ∨ n = 1 by omega) with rfl | rfl <;> rcases (show n' = 0 ∨ n' = 1 by omega) with rfl | rfl <;> omega
  | 4, 0, h2, h4 => have h2 : a < 12 ∧ b = 0 ∧ (k < 2 ∨ k = 4) := h2; have h4 : a' = 0 ∧ b' = 0 ∧ k' < 5 := h4; simp only [xi] at e; rcases (show n = 0 ∨ n = 1 by omega) with rfl | rfl <;> rcases (show n' = 0 ∨ n' = 1 by omega) with rfl | rfl <;> omega
  | 4, 1, h2, h4 => have h2 : a < 12 ∧ b = 0 ∧ (k < 2 ∨ k = 4) := h2; have h4 : a' < 4 ∧ b' = 0 ∧ (k' = 2 ∨ (4 ≤ k' ∧ k' < 12)) := h4; simp only [xi] at e; rcases (show n = 0 ∨ n = 1 by omega) with rfl | rfl <;> rcases (show n' = 0 ∨ n' = 1 by omega) with rfl | rfl <;> omega
  | 4, 2, h2, h4 => have h2 : a < 12 ∧ b = 0 ∧ (k < 2 ∨ k = 4) := h2; have h4 : a' < 4 ∧ b' < 12 ∧ k' < 8 := h4; simp only [xi] at e; rcases (show n = 0 ∨ n = 1 by omega) with rfl | rfl <;> rcases (show n' = 0 ∨ n' = 1 by omega) with rfl | rfl <;> omega
  | 4, 3, h2, h4 => have h2 : a < 12 ∧ b = 0 ∧ (k < 2 ∨ k = 4) := h2; have h4 : a' < 4 ∧ b' = 0 ∧ k' < 12 := h4; simp only [xi] at e; rcases (show n = 0 ∨ n = 1 by omega) with rfl | rfl <;> rcases (show n' = 0 ∨ n' = 1 by omega) with rfl | rfl <;> omega
  | 4, 4, h2, h4 => have h2 : a < 12 ∧ b = 0 ∧ (k < 2 ∨ k = 4) := h2; have h4 : a' < 12 ∧ b' = 0 ∧ (k' < 2 ∨ k' = 4) := h4; simp only [xi] at e; rcases (show n = 0 ∨ n = 1 by omega) with rfl | rfl <;> rcases (show n' = 0 ∨ n' = 1 by omega) with rfl | rfl <;> omega
  | 4, 5, h2, h4 => have h2 : a < 12 ∧ b = 0 ∧ (k < 2 ∨ k = 4) := h2; have h4 : a' < 12 ∧ b' = 0 ∧ k' < 4 := h4; simp only [xi] at e; rcases (show n = 0 ∨ n = 1 by omega) with rfl | rfl <;> rcases (show n' = 0 ∨ n' = 1 by omega) with rfl | rfl <;> omega
  | 5, 0, h2, h4 => have h2 : a < 12 ∧ b = 0 ∧ k < 4 := h2; have h4 : a' = 0 ∧ b' = 0 ∧ k' < 5 := h4; simp only [xi] at e; rcases (show n = 0 ∨ n = 1 by omega) with rfl | rfl <;> rcases (show n' = 0 ∨ n' = 1 by omega) with rfl | rfl <;> omega
  | 5, 1, h2, h4 => have h2 : a < 12 ∧ b = 0 ∧ k < 4 := h2; have h4 : a' < 4 ∧ b' = 0 ∧ (k' = 2 ∨ (4 ≤ k' ∧ k' < 12)) := h4; simp only [xi] at e; rcases (show n = 0 ∨ n = 1 by omega) with rfl | rfl <;> rcases (show n' = 0 ∨ n' = 1 by omega) with rfl | rfl <;> omega
  | 5, 2, h2, h4 => have h2 : a < 12 ∧ b = 0 ∧ k < 4 := h2; have h4 : a' < 4 ∧ b' < 12 ∧ k' < 8 := h4; simp only [xi] at e; rcases (show n = 0 ∨ n = 1 by omega) with rfl | rfl <;> rcases (show n' = 0 ∨ n' = 1 by omega) with rfl | rfl <;> omega
  | 5, 3, h2, h4 => have h2 : a < 12 ∧ b = 0 ∧ k < 4 := h2; have h4 : a' < 4 ∧ b' = 0 ∧ k' < 12 := h4; simp only [xi] at e; rcases (show n = 0 ∨ n = 1 by omega) with rfl | rfl <;> rcases (show n' = 0 ∨ n' = 1 by omega) with rfl | rfl <;> omega
  | 5, 4, h2, h4 => have h2 : a < 12 ∧ b = 0 ∧ k < 4 := h2; have h4 : a' < 12 ∧ b' = 0 ∧ (k' < 2 ∨ k' = 4) := h4; simp only [xi] at e; rcases (show n = 0 ∨ n = 1 by omega) with rfl | rfl <;> rcases (show n' = 0 ∨ n' = 1 by omega) with rfl | rfl <;> omega
  | 5, 5, h2, h4 => have h2 : a < 12 ∧ b = 0 ∧ k < 4 := h2; have h4 : a' < 12 ∧ b' = 0 ∧ k' < 4 := h4; simp only [xi] at e; rcases (show n = 0 ∨ n = 1 by omega) with rfl | rfl <;> rcases (show n' = 0 ∨ n' = 1 by omega) with rfl | rfl <;> omega
  | n + 6, _, h2, _ => exact h2.elim
  | _, n + 6, _, h4 => exact h4.elim
/-- a place of numbers is no place of a reference, no table, no table's array -/
theorem xi_apart {g n a b k : Nat} (h : vs g n a b k) :
    (xi g n a b ≠ 1) ∧ (∀ n', n' < 2 → xi g n a b ≠ rC n' ∧ xi g n a b ≠ rS n' ∧ xi g n a b ≠ rT n' ∧ ¬ (xi g n a b = xi 0 n' 0 0 ∧ 5 ≤ k)) ∧
    (∀ n' c, n' < 2 → c < 4 → xi g n a b ≠ rF n' c ∧ ¬ (xi g n a b = xi 1 n' c 0 ∧ (k = 0 ∨ k = 1 ∨ k = 3))) ∧
    (∀ n' f, n' < 2 → f < 12 → ¬ (xi g n a b = xi 4 n' f 0 ∧ (k = 2 ∨ k = 3))) ∧
    (∀ y n' a', vt y n' a' → xi g n a b ≠ xt y n' a' ∧ xi g n a b ≠ xt y n' a' + 1) := by
  obtain ⟨h1, h2⟩ := h
  have ht : ∀ y n' a', vt y n' a' → ∀ P : Nat → Prop, (n' < 2 → a' < 4 → P (9 + 138 * n' + 17 * a')) → (n' < 2 → a' < 12 → P (76 + 138 * n' + 4 * a')) → (n' < 2 → a' < 9 → P (122 + 138 * n' + 2 * a')) → P (xt y n' a') := by
    intro y n' a' hv P p0 p1 p2
    obtain ⟨v1, v2⟩ := hv
    match y, v2 with
    | 0, v2 => exact p0 v1 v2
    | 1, v2 => exact p1 v1 v2
    | 2, v2 => exact p2 v1 v2
    | n + 3, v2 => exact v2.elim
  match g, h2 with
  | 0, h2 => have h2 : a = 0 ∧ b = 0 ∧ k < 5 := h2; simp only [xi, rC, rS, rT, rF]; exact ⟨by omega, fun n' hn => by rcases (show n = 0 ∨ n = 1 by omega) with rfl | rfl <;> rcases (show n' = 0 ∨ n' = 1 by omega) with rfl | rfl <;> omega, fun n' c hn hc => by rcases (show n = 0 ∨ n = 1 by omega) with rfl | rfl <;> rcases (show n' = 0 ∨ n' = 1 by omega) with rfl | rfl <;> omega, fun n' f hn hf => by rcases (show n = 0 ∨ n = 1 by omega) with rfl | rfl <;> rcases (show n' = 0 ∨ n' = 1 by omega) with rfl | rfl <;> omega, fun y n' a' hv => ht y n' a' hv (fun q => 2 + 138 * n ≠ q ∧ 2 + 138 * n ≠ q + 1) (fun hn ha => by rcases (show n = 0 ∨ n = 1 by omega) with rfl | rfl <;> rcases (show n' = 0 ∨ n' = 1 by omega) with rfl | rfl <;> omega) (fun hn ha => by rcases (show n = 0 ∨ n = 1 by omega) with rfl | rfl <;> rcases (show n' = 0 ∨ n' = 1 by omega) with rfl | rfl <;> omega) (fun hn ha => by rcases (show n = 0 ∨ n = 1 by omega) with rfl | rfl <;> rcases (show n' = 0 ∨ n' = 1 by omega) with rfl | rfl <;> omega)⟩
  | 1, h2 => have h2 : a < 4 ∧ b = 0 ∧ (k = 2 ∨ (4 ≤ k ∧ k < 12)) := h2; simp only [xi, rC, rS, rT, rF]; exact ⟨by omega, fun n' hn => by rcases (show n = 0 ∨ n = 1 by omega) with rfl | rfl <;> rcases (show n' = 0 ∨ n' = 1 by omega) with rfl | rfl <;> omega, fun n' c hn hc => by rcases (show n = 0 ∨ n = 1 by omega) with rfl | rfl <;> rcases (show n' = 0 ∨ n' = 1 by omega) with rfl | rfl <;> omega, fun n' f hn hf => by rcases (show n = 0 ∨ n = 1 by omega) with rfl | rfl <;> rcases (show n' = 0 ∨ n' = 1 by omega) with rfl | rfl <;> omega, fun y n' a' hv => ht y n' a' hv (fun q => 6 + 138 * n + 17 * a ≠ q ∧ 6 + 138 * n + 17 * a ≠ q + 1) (fun hn ha => by rcases (show n = 0 ∨ n = 1 by omega) with rfl | rfl <;> rcases (show n' = 0 ∨ n' = 1 by omega) with rfl | rfl <;> omega) (fun hn ha => by rcases (show n = 0 ∨ n = 1 by omega) with rfl | rfl <;> rcases (show n' = 0 ∨ n' = 1 by omega) with rfl | rfl <;> omega) (fun hn ha => by rcases (show n = 0 ∨ n = 1 by omega) with rfl | rfl <;> rcases (show n' = 0 ∨ n' = 1 by omega) with rfl | rfl <;> omega)⟩
  | 2, h2 => have h2 : a < 4 ∧ b < 12 ∧ k < 8 := h2; simp only [xi, rC, rS, rT, rF]; exact ⟨by omega, fun n' hn => by rcases (show n = 0 ∨ n = 1 by omega) with rfl | rfl <;> rcases (show n' = 0 ∨ n' = 1 by omega) with rfl | rfl <;> omega, fun n' c hn hc => by rcases (show n = 0 ∨ n = 1 by omega) with rfl | rfl <;> rcases (show n' = 0 ∨ n' = 1 by omega) with rfl | rfl <;> omega, fun n' f hn hf => by rcases (show n = 0 ∨ n = 1 by omega) with rfl | rfl <;> rcases (show n' = 0 ∨ n' = 1 by omega) with rfl | rfl <;> omega, fun y n' a' hv => ht y n' a' hv (fun q => 11 + 138 * n + 17 * a + b ≠ q ∧ 11 + 138 * n + 17 * a + b ≠ q + 1) (fun hn ha => by rcases (show n = 0 ∨ n = 1 by omega) with rfl | rfl <;> rcases (show n' = 0 ∨ n' = 1 by omega) with rfl | rfl <;> omega) (fun hn ha => by rcases (show n = 0 ∨ n = 1 by omega) with rfl | rfl <;> rcases (show n' = 0 ∨ n' = 1 by omega) with rfl | rfl <;> omega) (fun hn ha => by rcases (show n = 0 ∨ n = 1 by omega) with rfl | rfl <;> rcases (show n' = 0 ∨ n' = 1 by omega) with rfl | rfl <;> omega)⟩
  | 3, h2 => have h2 : a < 4 ∧ b = 0 ∧ k < 12 := h2; simp only [xi, rC, rS, rT, rF]; exact ⟨by omega, fun n' hn => by rcases (show n = 0 ∨ n = 1 by omega) with rfl | rfl <;> rcases (show n' = 0 ∨ n' = 1 by omega) with rfl | rfl <;> omega, fun n' c hn hc => by rcases (show n = 0 ∨ n = 1 by omega) with rfl | rfl <;> rcases (show n' = 0 ∨ n' = 1 by omega) with rfl | rfl <;> omega, fun n' f hn hf => by rcases (show n = 0 ∨ n = 1 by omega) with rfl | rfl <;> rcases (show n' = 0 ∨ n' = 1 by omega) with rfl | rfl <;> omega, fun y n' a' hv => ht y n' a' hv (fun q => 8 + 138 * n + 17 * a ≠ q ∧ 8 + 138 * n + 17 * a ≠ q + 1) (fun hn ha => by rcases (show n = 0 ∨ n = 1 by omega) with rfl | rfl <;> rcases (show n' = 0 ∨ n' = 1 by omega) with rfl | rfl <;> omega) (fun hn ha => by rcases (show n = 0 ∨ n = 1 by omega) with rfl | rfl <;> rcases (show n' = 0 ∨ n' = 1 by omega) with rfl | rfl <;> omega) (fun hn ha => by rcases (show n = 0 ∨ n = 1 by omega) with rfl | rfl <;> rcases (show n' = 0 ∨ n' = 1 by omega) with rfl | rfl <;> omega)⟩
  | 4, h2 => have h2 : a < 12 ∧ b = 0 ∧ (k < 2 ∨ k = 4) := h2; simp only [xi, rC, rS, rT, rF]; exact ⟨by omega, fun n' hn => by rcases (show n = 0 ∨ n = 1 by omega) with rfl | rfl <;> rcases (show n' = 0 ∨ n' = 1 by omega) with rfl | rfl <;> omega, fun n' c hn hc => by rcases (show n = 0 ∨ n = 1 by omega) with rfl | rfl <;> rcases (show n' = 0 ∨ n' = 1 by omega) with rfl | rfl <;> omega, fun n' f hn hf => by rcases (show n = 0 ∨ n = 1 by omega) with rfl | rfl <;> rcases (show n' = 0 ∨ n' = 1 by omega) with rfl | rfl <;> omega, fun y n' a' hv => ht y n' a' hv (fun q => 74 + 138 * n + 4 * a ≠ q ∧ 74 + 138 * n + 4 * a ≠ q + 1) (fun hn ha => by rcases (show n = 0 ∨ n = 1 by omega) with rfl | rfl <;> rcases (show n' = 0 ∨ n' = 1 by omega) with rfl | rfl <;> omega) (fun hn ha => by rcases (show n = 0 ∨ n = 1 by omega) with rfl | rfl <;> rcases (show n' = 0 ∨ n' = 1 by omega) with rfl | rfl <;> omega) (fun hn ha => by rcases (show n = 0 ∨ n = 1 by omega) with rfl | rfl <;> rcases (show n' = 0 ∨ n' = 1 by omega) with rfl | rfl <;> omega)⟩
  | 5, h2 => have h2 : a < 12 ∧ b = 0 ∧ k < 4 := h2; simp only [xi, rC, rS, rT, rF]; exact ⟨by omega, fun n' hn => by rcases (show n = 0 ∨ n = 1 by omega) with rfl | rfl <;> rcases (show n' = 0 ∨ n' = 1 by omega) with rfl | rfl <;> omega, fun n' c hn hc => by rcases (show n = 0 ∨ n = 1 by omega) with rfl | rfl <;> rcases (show n' = 0 ∨ n' = 1 by omega) with rfl | rfl <;> omega, fun n' f hn hf => by rcases (show n = 0 ∨ n = 1 by omega) with rfl | rfl <;> rcases (show n' = 0 ∨ n' = 1 by omega) with rfl | rfl <;> omega, fun y n' a' hv => ht y n' a' hv (fun q => 75 + 138 * n + 4 * a ≠ q ∧ 75 + 138 * n + 4 * a ≠ q + 1) (fun hn ha => by rcases (show n = 0 ∨ n = 1 by omega) with rfl | rfl <;> rcases (show n' = 0 ∨ n' = 1 by omega) with rfl | rfl <;> omega) (fun hn ha => by rcases (show n = 0 ∨ n = 1 by omega) with rfl | rfl <;> rcases (show n' = 0 ∨ n' = 1 by omega) with rfl | rfl <;> omega) (fun hn ha => by rcases (show n = 0 ∨ n = 1 by omega) with rfl | rfl <;> rcases (show n' = 0 ∨ n' = 1 by omega) with rfl | rfl <;> omega)⟩
  | n + 6, h2 => exact h2.elim
theorem hv_set (hp : AH) (i k : Nat) (v : Value) (j l : Nat) : hv (hset hp i k v) j l = if j = i ∧ l = k then v else hv hp j l := rfl
theorem hv_ne {hp : AH} {i k : Nat} {v : Value} {j l : Nat} (h : ¬ (j = i ∧ l = k)) : hv (hset hp i k v) j l = hv hp j l := if_neg h
theorem aix_ne {hp : AH} {i k : Nat} {v : Value} {j : Nat} (h : ¬ (j = i ∧ 1 = k)) : aix (hset hp i k v) j = aix hp j := by
  unfold aix
  rw [hv_ne h]
theorem TabAt.set {hp : AH} {i k : Nat} {v : Value} {t w : Nat} {r : List Row} {cap : Nat} (h : TabAt hp t w r cap) (h1 : t ≠ i) (h2 : aix hp t ≠ i) : TabAt (hset hp i k v) t w r cap := by
  have e := aix_ne (hp := hp) (k := k) (v := v) (fun q : t = i ∧ 1 = k => h1 q.1)
  obtain ⟨a1, a2, a3, a4, a5, a6, a7, a8, a9, a10, a11⟩ := h
  unfold TabAt
  rw [e]
  refine ⟨a1, ?_, ?_, ?_, a5, a6, a7, a8, a9, fun j hj => ?_, fun k' q hq c hc => ?_⟩
  · rw [hv_ne (fun q => h1 q.1)]; exact a2
  · rw [hv_ne (fun q => h1 q.1)]; exact a3
  · rw [hv_ne (fun q => h1 q.1)]; exact a4
  · rw [hv_ne (fun q => h2 q.1)]; exact a10 j hj
  · rw [hv_ne (fun q => h2 q.1)]; exact a11 k' q hq c hc
/-- a number is written -/
theorem Rep.setV {hp : AH} {M : MS} (h : Rep hp M) {g n a b k : Nat} (hv0 : vs g n a b k) {v : Int32} (hok : okg g k v) : Rep (hset hp (xi g n a b) k (.int v)) (sV M g n a b k v) := by
  obtain ⟨r1, r2, r3, r4, r5, r6, r7, r8, r9, r10, r11, r12, r13⟩ := h
  obtain ⟨d1, d2, d3, d4, d5⟩ := xi_apart hv0
  have hl := xi_le hv0
  have hA : ∀ y n' a', vt y n' a' → aix hp (xt y n' a') ≠ xi g n a b := by
    intro y n' a' ht hq
    have h5 := (d5 y n' a' ht).2
    rcases (r11 y n' a' ht).2.2.2.2.1 with e | e
    · exact h5 (by rw [← hq, e])
    · omega
  have hAx : ∀ y n' a', vt y n' a' → aix (hset hp (xi g n a b) k (.int v)) (xt y n' a') = aix hp (xt y n' a') := fun y n' a' ht => aix_ne (fun q => (d5 y n' a' ht).1 q.1.symm)
  refine ⟨r1, r2, r3, ?_, ?_, ?_, ?_, ?_, ?_, ?_, ?_, ?_, ?_⟩
  · obtain ⟨a1, a2, a3⟩ := r4
    exact ⟨a1, by rw [hv_ne (fun q => d1 q.1.symm)]; exact a2, by rw [hv_ne (fun q => d1 q.1.symm)]; exact a3⟩
  · intro n' hn
    obtain ⟨a1, a2, a3, a4, a5⟩ := r5 n' hn
    have d := d2 n' hn
    exact ⟨a1, by rw [hv_ne (fun q => d.2.2.2 ⟨q.1.symm, by omega⟩)]; exact a2, by rw [hv_ne (fun q => d.2.2.2 ⟨q.1.symm, by omega⟩)]; exact a3, by rw [hv_ne (fun q => d.2.2.2 ⟨q.1.symm, by omega⟩)]; exact a4, a5⟩
  · intro n' c hn hc
    obtain ⟨a1, a2, a3, a4, a5, a6⟩ := r6 n' c hn hc
    have d := d3 n' c hn hc
    exact ⟨by rw [hv_ne (fun q => (d2 n' hn).1 q.1.symm)]; exact a1, a2, by rw [hv_ne (fun q => d.2 ⟨q.1.symm, by omega⟩)]; exact a3, by rw [hv_ne (fun q => d.2 ⟨q.1.symm, by omega⟩)]; exact a4, by rw [hv_ne (fun q => d.2 ⟨q.1.symm, by omega⟩)]; exact a5, a6⟩
  · intro n' c f hn hc hf
    obtain ⟨a1, a2⟩ := r7 n' c f hn hc hf
    exact ⟨by rw [hv_ne (fun q => (d3 n' c hn hc).1 q.1.symm)]; exact a1, a2⟩
  · intro n' f hn hf
    obtain ⟨a1, a2, a3, a4, a5⟩ := r8 n' f hn hf
    have d := d4 n' f hn hf
    exact ⟨by rw [hv_ne (fun q => (d2 n' hn).2.1 q.1.symm)]; exact a1, a2, by rw [hv_ne (fun q => d ⟨q.1.symm, by omega⟩)]; exact a3, by rw [hv_ne (fun q => d ⟨q.1.symm, by omega⟩)]; exact a4, a5⟩
  · intro n' k' hn hk'
    rw [hv_ne (fun q => (d2 n' hn).2.2.1 q.1.symm)]
    exact r9 n' k' hn hk'
  · intro g' n' a' b' k' hs
    rw [hv_set]
    show _ = Value.int (if g' = g ∧ n' = n ∧ a' = a ∧ b' = b ∧ k' = k then v else gV M g' n' a' b' k') ∧ okg g' k' (if g' = g ∧ n' = n ∧ a' = a ∧ b' = b ∧ k' = k then v else gV M g' n' a' b' k')
    by_cases hq : xi g' n' a' b' = xi g n a b ∧ k' = k
    · obtain ⟨e1, e2, e3, e4⟩ := xi_inj hs hv0 hq.1
      rw [if_pos hq, if_pos ⟨e1, e2, e3, e4, hq.2⟩]
      subst e1
      rw [hq.2]
      exact ⟨rfl, hok⟩
    · rw [if_neg hq, if_neg]
      · exact r10 g' n' a' b' k' hs
      rintro ⟨e1, e2, e3, e4, e5⟩
      subst e1; subst e2; subst e3; subst e4; subst e5
      exact hq ⟨rfl, rfl⟩
  · intro y n' a' ht
    exact (r11 y n' a' ht).set (fun q => (d5 y n' a' ht).1 q.symm) (hA y n' a' ht)
  · intro y n1 a1 y' n2 a2 t1 t2 e
    rw [hAx _ _ _ t1, hAx _ _ _ t2] at e
    exact r12 y n1 a1 y' n2 a2 t1 t2 e
  · intro i l f hx
    obtain ⟨x1, x2, x3, x4, x5⟩ := r13 i l f hx
    refine ⟨x1, x2, x3, fun k' hk' => ?_, fun y n' a' ht => by rw [hAx _ _ _ ht]; exact x5 y n' a' ht⟩
    rw [hv_ne (fun q => by have := q.1; omega)]
    exact x4 k' hk'
end
section
/-! ===== the rules over the state in numbers ===== -/
theorem Rep.scal {hp : AH} {M : MS} (h : Rep hp M) {g n a b k : Nat} (hs : vs g n a b k) : hv hp (xi g n a b) k = .int (gV M g n a b k) := by
  obtain ⟨r1, r2, r3, r4, r5, r6, r7, r8, r9, r10, r11, r12, r13⟩ := h
  exact (r10 g n a b k hs).1
theorem Rep.og {hp : AH} {M : MS} (h : Rep hp M) {g n a b k : Nat} (hs : vs g n a b k) : okg g k (gV M g n a b k) := by
  obtain ⟨r1, r2, r3, r4, r5, r6, r7, r8, r9, r10, r11, r12, r13⟩ := h
  exact (r10 g n a b k hs).2
theorem Rep.oo {hp : AH} {M : MS} (h : Rep hp M) {g n a b k : Nat} (hs : vs g n a b k) (hg : g ≠ 3 ∧ g ≠ 5) : okc hp (xi g n a b) (ck g) (nk g) := by
  obtain ⟨r1, r2, r3, r4, r5, r6, r7, r8, r9, r10, r11, r12, r13⟩ := h
  have hl := xi_le hs
  refine ⟨hl.1, by omega, ?_⟩
  obtain ⟨h1, h2⟩ := hs
  match g, h2, hg with
  | 0, h2, _ =>
    have h2 : a = 0 ∧ b = 0 ∧ k < 5 := h2
    obtain ⟨rfl, rfl, -⟩ := h2
    exact (r5 n h1).1
  | 1, h2, _ =>
    have h2 : a < 4 ∧ b = 0 ∧ (k = 2 ∨ (4 ≤ k ∧ k < 12)) := h2
    obtain ⟨h3, rfl, -⟩ := h2
    exact (r6 n a h1 h3).2.1
  | 2, h2, _ =>
    have h2 : a < 4 ∧ b < 12 ∧ k < 8 := h2
    exact (r7 n a b h1 h2.1 h2.2.1).2
  | 3, _, hg => exact absurd rfl hg.1
  | 4, h2, _ =>
    have h2 : a < 12 ∧ b = 0 ∧ (k < 2 ∨ k = 4) := h2
    obtain ⟨h3, rfl, -⟩ := h2
    exact (r8 n a h1 h3).2.1
  | 5, _, hg => exact absurd rfl hg.2
  | n + 6, h2, _ => exact h2.elim
theorem okI {ci k : Nat} {v : Int32} (h : fty ci k = .int) : okf ci k (.int v) := fun base b => by rw [h]; exact ⟨rfl, rfl⟩
theorem okB {ci k : Nat} {v : Int32} (h : fty ci k = .boolean) (hv : v = 0 ∨ v = 1) : okf ci k (.int v) := fun base b => by rw [h]; exact ⟨narrow_01 hv, fits_01 hv⟩
theorem narrow_b_inv {v : Int32} (h : narrow .boolean (.int v) = .int v) : v = 0 ∨ v = 1 := by
  have h1 : narrow .boolean (.int v) = .int (v &&& 1) := rfl
  rw [h1] at h
  have h2 : v &&& 1 = v := Value.int.inj h
  rw [← h2]
  obtain ⟨j, hj, e⟩ := pk_andE v (m := 1) 1 rfl
  rw [e]
  rcases (show j = 0 ∨ j = 1 by omega) with rfl | rfl
  · exact Or.inl rfl
  · exact Or.inr rfl
/-- a boolean field holds 0 or 1 -/
theorem Rep.bool {hp : AH} {M : MS} (h : Rep hp M) {g n a b k : Nat} (hs : vs g n a b k) (hf : fty (ck g) k = .boolean) (hg : g ≠ 3 ∧ g ≠ 5) : gV M g n a b k = 0 ∨ gV M g n a b k = 1 := by
  rcases h.og hs with e | e | e
  · exact absurd e hg.1
  · exact absurd e hg.2
  · have h1 := (e 0 0).1
    rw [hf] at h1
    exact narrow_b_inv h1
section RR
variable {L : Nat} {xs : Nat → Int32} {d : Nat} {C : MD} {pc : Nat} {ls : LSt} {st : List Value} {hp : AH} {Q : Option Value → AH → Prop} {M : MS}
theorem wr_get {g n a b k idx : Nat} (hd : decode C.2.1 pc = .ok (.getfield idx, 3)) (hR : Rep hp M) (hf : fG C.1.cls idx (ck g) k) (hs : vs g n a b k) (hg : g ≠ 3 ∧ g ≠ 5) (hn : k < nk g) (kk : WP L xs d C (pc + 3) ls (.int (gV M g n a b k) :: st) hp Q) : WP L xs d C pc ls (.ref (xi g n a b) :: st) hp Q := by
  refine wp_get hd (hR.oo hs hg) hf hn ?_
  rw [hR.scal hs]
  exact kk
theorem wr_put {g n a b k idx : Nat} {v : Int32} (hd : decode C.2.1 pc = .ok (.putfield idx, 3)) (hR : Rep hp M) (hf : fP C idx (ck g) k) (hs : vs g n a b k) (hg : g ≠ 3 ∧ g ≠ 5) (hn : k < nk g) (hok : okf (ck g) k (.int v)) (kk : ∀ hp', Rep hp' (sV M g n a b k v) → WP L xs d C (pc + 3) ls st hp' Q) : WP L xs d C pc ls (.int v :: .ref (xi g n a b) :: st) hp Q :=
  wp_put hd (hR.oo hs hg) hf hok hn (kk _ (hR.setV hs (Or.inr (Or.inr hok))))
/-- the two rows of ints that are arrays -/
theorem Rep.oA {hp : AH} {M : MS} (h : Rep hp M) {n a k : Nat} (hs : vs 3 n a 0 k) : okc hp (xi 3 n a 0) 6 12 := by
  obtain ⟨r1, r2, r3, r4, r5, r6, r7, r8, r9, r10, r11, r12, r13⟩ := h
  have hl := xi_le hs
  have h2 : a < 4 ∧ 0 = 0 ∧ k < 12 := hs.2
  exact ⟨hl.1, by omega, (r6 n a hs.1 h2.1).2.2.2.2.2.2⟩
theorem Rep.oU {hp : AH} {M : MS} (h : Rep hp M) {n a k : Nat} (hs : vs 5 n a 0 k) : okc hp (xi 5 n a 0) 6 4 := by
  obtain ⟨r1, r2, r3, r4, r5, r6, r7, r8, r9, r10, r11, r12, r13⟩ := h
  have hl := xi_le hs
  have h2 : a < 12 ∧ 0 = 0 ∧ k < 4 := hs.2
  exact ⟨hl.1, by omega, (r8 n a hs.1 h2.1).2.2.2.2⟩
theorem wr_ordG {n a k : Nat} {x : Int32} (hd : decode C.2.1 pc = .ok (.iaload, 1)) (hR : Rep hp M) (hx : x = nI k) (hs : vs 3 n a 0 k) (kk : WP L xs d C (pc + 1) ls (.int (gV M 3 n a 0 k) :: st) hp Q) : WP L xs d C pc ls (.int x :: .ref (xi 3 n a 0) :: st) hp Q := by
  have h2 : a < 4 ∧ 0 = 0 ∧ k < 12 := hs.2
  refine wp_iald hd (hR.oA hs) hx h2.2.2 (by decide) ?_
  rw [hR.scal hs]
  exact kk
theorem wr_ordP {n a k : Nat} {x y : Int32} (hd : decode C.2.1 pc = .ok (.iastore, 1)) (hR : Rep hp M) (hx : x = nI k) (hs : vs 3 n a 0 k) (kk : ∀ hp', Rep hp' (sV M 3 n a 0 k y) → WP L xs d C (pc + 1) ls st hp' Q) : WP L xs d C pc ls (.int y :: .int x :: .ref (xi 3 n a 0) :: st) hp Q := by
  have h2 : a < 4 ∧ 0 = 0 ∧ k < 12 := hs.2
  exact wp_iast hd (hR.oA hs) hx h2.2.2 (by decide) (kk _ (hR.setV hs (Or.inl rfl)))
theorem wr_untG {n a k : Nat} {x : Int32} (hd : decode C.2.1 pc = .ok (.iaload, 1)) (hR : Rep hp M) (hx : x = nI k) (hs : vs 5 n a 0 k) (kk : WP L xs d C (pc + 1) ls (.int (gV M 5 n a 0 k) :: st) hp Q) : WP L xs d C pc ls (.int x :: .ref (xi 5 n a 0) :: st) hp Q := by
  have h2 : a < 12 ∧ 0 = 0 ∧ k < 4 := hs.2
  refine wp_iald hd (hR.oU hs) hx h2.2.2 (by decide) ?_
  rw [hR.scal hs]
  exact kk
theorem wr_untP {n a k : Nat} {x y : Int32} (hd : decode C.2.1 pc = .ok (.iastore, 1)) (hR : Rep hp M) (hx : x = nI k) (hs : vs 5 n a 0 k) (kk : ∀ hp', Rep hp' (sV M 5 n a 0 k y) → WP L xs d C (pc + 1) ls st hp' Q) : WP L xs d C pc ls (.int y :: .int x :: .ref (xi 5 n a 0) :: st) hp Q := by
  have h2 : a < 12 ∧ 0 = 0 ∧ k < 4 := hs.2
  exact wp_iast hd (hR.oU hs) hx h2.2.2 (by decide) (kk _ (hR.setV hs (Or.inr (Or.inl rfl))))
/-! references -/
theorem Rep.top {hp : AH} {M : MS} (h : Rep hp M) : okc hp 1 5 2 ∧ hv hp 1 0 = .ref (xi 0 0 0 0) ∧ hv hp 1 1 = .ref (xi 0 1 0 0) := by
  obtain ⟨r1, r2, r3, ⟨a1, a2, a3⟩, r5, r6, r7, r8, r9, r10, r11, r12, r13⟩ := h
  exact ⟨⟨by decide, by omega, a1⟩, a2, a3⟩
theorem wr_net {idx : Nat} (hd : decode C.2.1 pc = .ok (.getfield idx, 3)) (hR : Rep hp M) (hf : fG C.1.cls idx 5 0) (kk : WP L xs d C (pc + 3) ls (.ref (xi 0 0 0 0) :: st) hp Q) : WP L xs d C pc ls (.ref 1 :: st) hp Q := by
  refine wp_get hd hR.top.1 hf (by decide) ?_
  rw [hR.top.2.1]; exact kk
theorem wr_trial {idx : Nat} (hd : decode C.2.1 pc = .ok (.getfield idx, 3)) (hR : Rep hp M) (hf : fG C.1.cls idx 5 1) (kk : WP L xs d C (pc + 3) ls (.ref (xi 0 1 0 0) :: st) hp Q) : WP L xs d C pc ls (.ref 1 :: st) hp Q := by
  refine wp_get hd hR.top.1 hf (by decide) ?_
  rw [hR.top.2.2]; exact kk
theorem Rep.N {hp : AH} {M : MS} (h : Rep hp M) {n : Nat} (hn : n < 2) : ShN hp n ∧ 277 ≤ hsz hp := by
  obtain ⟨r1, r2, r3, r4, r5, r6, r7, r8, r9, r10, r11, r12, r13⟩ := h
  exact ⟨r5 n hn, r1⟩
theorem Rep.Cl {hp : AH} {M : MS} (h : Rep hp M) {n c : Nat} (hn : n < 2) (hc : c < 4) : ShC hp n c ∧ 277 ≤ hsz hp := by
  obtain ⟨r1, r2, r3, r4, r5, r6, r7, r8, r9, r10, r11, r12, r13⟩ := h
  exact ⟨r6 n c hn hc, r1⟩
theorem Rep.H {hp : AH} {M : MS} (h : Rep hp M) {n c f : Nat} (hn : n < 2) (hc : c < 4) (hf : f < 12) : ShH hp n c f ∧ 277 ≤ hsz hp := by
  obtain ⟨r1, r2, r3, r4, r5, r6, r7, r8, r9, r10, r11, r12, r13⟩ := h
  exact ⟨r7 n c f hn hc hf, r1⟩
theorem Rep.S {hp : AH} {M : MS} (h : Rep hp M) {n f : Nat} (hn : n < 2) (hf : f < 12) : ShS hp n f ∧ 277 ≤ hsz hp := by
  obtain ⟨r1, r2, r3, r4, r5, r6, r7, r8, r9, r10, r11, r12, r13⟩ := h
  exact ⟨r8 n f hn hf, r1⟩
theorem Rep.K {hp : AH} {M : MS} (h : Rep hp M) {n k : Nat} (hn : n < 2) (hk : k < 9) : hv hp (rT n) k = .ref (xt 2 n k) := by
  obtain ⟨r1, r2, r3, r4, r5, r6, r7, r8, r9, r10, r11, r12, r13⟩ := h
  exact r9 n k hn hk
theorem Rep.T {hp : AH} {M : MS} (h : Rep hp M) {y n a : Nat} (ht : vt y n a) : TabAt hp (xt y n a) (tw y) (gT M y n a) (gP M y n a) := by
  obtain ⟨r1, r2, r3, r4, r5, r6, r7, r8, r9, r10, r11, r12, r13⟩ := h
  exact r11 y n a ht
theorem wr_netR {n k idx j : Nat} (hd : decode C.2.1 pc = .ok (.getfield idx, 3)) (hR : Rep hp M) (hf : fG C.1.cls idx 2 k) (hn : n < 2) (hk : (k = 5 ∧ j = rC n) ∨ (k = 6 ∧ j = rS n) ∨ (k = 7 ∧ j = rT n)) (kk : WP L xs d C (pc + 3) ls (.ref j :: st) hp Q) : WP L xs d C pc ls (.ref (xi 0 n 0 0) :: st) hp Q := by
  obtain ⟨⟨a1, a2, a3, a4, -⟩, hz⟩ := hR.N hn
  have ho : okc hp (xi 0 n 0 0) 2 8 := ⟨by simp only [xi]; omega, by simp only [xi]; omega, a1⟩
  refine wp_get hd ho hf (by omega) ?_
  rcases hk with ⟨rfl, rfl⟩ | ⟨rfl, rfl⟩ | ⟨rfl, rfl⟩
  · rw [a2]; exact kk
  · rw [a3]; exact kk
  · rw [a4]; exact kk
theorem wr_cliR {n c k idx j : Nat} (hd : decode C.2.1 pc = .ok (.getfield idx, 3)) (hR : Rep hp M) (hf : fG C.1.cls idx 0 k) (hn : n < 2) (hc : c < 4) (hk : (k = 0 ∧ j = rF n c) ∨ (k = 1 ∧ j = xi 3 n c 0) ∨ (k = 3 ∧ j = xt 0 n c)) (kk : WP L xs d C (pc + 3) ls (.ref j :: st) hp Q) : WP L xs d C pc ls (.ref (xi 1 n c 0) :: st) hp Q := by
  obtain ⟨⟨-, a1, a2, a3, a4, -⟩, hz⟩ := hR.Cl hn hc
  have ho : okc hp (xi 1 n c 0) 0 12 := ⟨by simp only [xi]; omega, by simp only [xi]; omega, a1⟩
  refine wp_get hd ho hf (by omega) ?_
  rcases hk with ⟨rfl, rfl⟩ | ⟨rfl, rfl⟩ | ⟨rfl, rfl⟩
  · rw [a2]; exact kk
  · rw [a3]; exact kk
  · rw [a4]; exact kk
theorem wr_sheR {n f k idx j : Nat} (hd : decode C.2.1 pc = .ok (.getfield idx, 3)) (hR : Rep hp M) (hf : fG C.1.cls idx 3 k) (hn : n < 2) (hc : f < 12) (hk : (k = 2 ∧ j = xi 5 n f 0) ∨ (k = 3 ∧ j = xt 1 n f)) (kk : WP L xs d C (pc + 3) ls (.ref j :: st) hp Q) : WP L xs d C pc ls (.ref (xi 4 n f 0) :: st) hp Q := by
  obtain ⟨⟨-, a1, a2, a3, -⟩, hz⟩ := hR.S hn hc
  have ho : okc hp (xi 4 n f 0) 3 5 := ⟨by simp only [xi]; omega, by simp only [xi]; omega, a1⟩
  refine wp_get hd ho hf (by omega) ?_
  rcases hk with ⟨rfl, rfl⟩ | ⟨rfl, rfl⟩
  · rw [a2]; exact kk
  · rw [a3]; exact kk
theorem wr_aC {n c : Nat} {x : Int32} (hd : decode C.2.1 pc = .ok (.aaload, 1)) (hR : Rep hp M) (hx : x = nI c) (hn : n < 2) (hc : c < 4) (kk : WP L xs d C (pc + 1) ls (.ref (xi 1 n c 0) :: st) hp Q) : WP L xs d C pc ls (.int x :: .ref (rC n) :: st) hp Q := by
  obtain ⟨⟨-, -, -, -, a1, -, -⟩, hz⟩ := hR.N hn
  refine wp_aald hd (t := 7) (n := 4) ⟨by simp only [rC]; omega, by simp only [rC]; omega, a1⟩ rfl hx hc (by decide) ?_
  rw [(hR.Cl hn hc).1.1]; exact kk
theorem wr_aS {n f : Nat} {x : Int32} (hd : decode C.2.1 pc = .ok (.aaload, 1)) (hR : Rep hp M) (hx : x = nI f) (hn : n < 2) (hf : f < 12) (kk : WP L xs d C (pc + 1) ls (.ref (xi 4 n f 0) :: st) hp Q) : WP L xs d C pc ls (.int x :: .ref (rS n) :: st) hp Q := by
  obtain ⟨⟨-, -, -, -, -, a1, -⟩, hz⟩ := hR.N hn
  refine wp_aald hd (t := 9) (n := 12) ⟨by simp only [rS]; omega, by simp only [rS]; omega, a1⟩ rfl hx hf (by decide) ?_
  rw [(hR.S hn hf).1.1]; exact kk
theorem wr_aT {n k : Nat} {x : Int32} (hd : decode C.2.1 pc = .ok (.aaload, 1)) (hR : Rep hp M) (hx : x = nI k) (hn : n < 2) (hk : k < 9) (kk : WP L xs d C (pc + 1) ls (.ref (xt 2 n k) :: st) hp Q) : WP L xs d C pc ls (.int x :: .ref (rT n) :: st) hp Q := by
  obtain ⟨⟨-, -, -, -, -, -, a1⟩, hz⟩ := hR.N hn
  refine wp_aald hd (t := 10) (n := 9) ⟨by simp only [rT]; omega, by simp only [rT]; omega, a1⟩ rfl hx hk (by decide) ?_
  rw [hR.K hn hk]; exact kk
theorem wr_aF {n c f : Nat} {x : Int32} (hd : decode C.2.1 pc = .ok (.aaload, 1)) (hR : Rep hp M) (hx : x = nI f) (hn : n < 2) (hc : c < 4) (hf : f < 12) (kk : WP L xs d C (pc + 1) ls (.ref (xi 2 n c f) :: st) hp Q) : WP L xs d C pc ls (.int x :: .ref (rF n c) :: st) hp Q := by
  obtain ⟨⟨-, -, -, -, -, a1, -⟩, hz⟩ := hR.Cl hn hc
  refine wp_aald hd (t := 8) (n := 12) ⟨by simp only [rF]; omega, by simp only [rF]; omega, a1⟩ rfl hx hf (by decide) ?_
  rw [(hR.H hn hc hf).1.1]; exact kk
/-! tables: how many rows -/
theorem Rep.oT {hp : AH} {M : MS} (h : Rep hp M) {y n a : Nat} (ht : vt y n a) : okc hp (xt y n a) 4 3 := by
  have hl := xt_le ht
  have hz := (h.N ht.1).2
  exact ⟨hl.1, by omega, (h.T ht).1⟩
theorem wr_rows {y n a idx : Nat} (hd : decode C.2.1 pc = .ok (.getfield idx, 3)) (hR : Rep hp M) (hf : fG C.1.cls idx 4 2) (ht : vt y n a) (kk : WP L xs d C (pc + 3) ls (.int (nI (gT M y n a).length) :: st) hp Q) : WP L xs d C pc ls (.ref (xt y n a) :: st) hp Q := by
  refine wp_get hd (hR.oT ht) hf (by decide) ?_
  rw [(hR.T ht).2.2.1]; exact kk
theorem wr_width {y n a idx : Nat} (hd : decode C.2.1 pc = .ok (.getfield idx, 3)) (hR : Rep hp M) (hf : fG C.1.cls idx 4 0) (ht : vt y n a) (kk : WP L xs d C (pc + 3) ls (.int (nI (tw y)) :: st) hp Q) : WP L xs d C pc ls (.ref (xt y n a) :: st) hp Q := by
  refine wp_get hd (hR.oT ht) hf (by decide) ?_
  rw [(hR.T ht).2.1]; exact kk
theorem wr_cells {y n a idx : Nat} (hd : decode C.2.1 pc = .ok (.getfield idx, 3)) (hR : Rep hp M) (hf : fG C.1.cls idx 4 1) (ht : vt y n a) (kk : WP L xs d C (pc + 3) ls (.ref (aix hp (xt y n a)) :: st) hp Q) : WP L xs d C pc ls (.ref (xt y n a) :: st) hp Q := by
  refine wp_get hd (hR.oT ht) hf (by decide) ?_
  rw [(hR.T ht).2.2.2.1]; exact kk
end RR
end
section
/-! places of numbers, by their parts -/
theorem vs0 {n k : Nat} (hn : n < 2) (hk : k < 5) : vs 0 n 0 0 k := ⟨hn, rfl, rfl, hk⟩
theorem vs1 {n c k : Nat} (hn : n < 2) (hc : c < 4) (hk : k = 2 ∨ (4 ≤ k ∧ k < 12)) : vs 1 n c 0 k := ⟨hn, hc, rfl, hk⟩
theorem vs2 {n c f k : Nat} (hn : n < 2) (hc : c < 4) (hf : f < 12) (hk : k < 8) : vs 2 n c f k := ⟨hn, hc, hf, hk⟩
theorem vs3 {n c k : Nat} (hn : n < 2) (hc : c < 4) (hk : k < 12) : vs 3 n c 0 k := ⟨hn, hc, rfl, hk⟩
theorem vs4 {n f k : Nat} (hn : n < 2) (hf : f < 12) (hk : k < 2 ∨ k = 4) : vs 4 n f 0 k := ⟨hn, hf, rfl, hk⟩
theorem vs5 {n f k : Nat} (hn : n < 2) (hf : f < 12) (hk : k < 4) : vs 5 n f 0 k := ⟨hn, hf, rfl, hk⟩
theorem vt0 {n c : Nat} (hn : n < 2) (hc : c < 4) : vt 0 n c := ⟨hn, hc⟩
theorem vt1 {n f : Nat} (hn : n < 2) (hf : f < 12) : vt 1 n f := ⟨hn, hf⟩
theorem vt2 {n k : Nat} (hn : n < 2) (hk : k < 9) : vt 2 n k := ⟨hn, hk⟩
/-- reading what was written -/
theorem gV_sV (M : MS) (g n a b k : Nat) (v : Int32) (g' n' a' b' k' : Nat) : gV (sV M g n a b k v) g' n' a' b' k' = if g' = g ∧ n' = n ∧ a' = a ∧ b' = b ∧ k' = k then v else gV M g' n' a' b' k' := rfl
theorem sV_self (M : MS) (g n a b k : Nat) (v : Int32) : gV (sV M g n a b k v) g n a b k = v := if_pos ⟨rfl, rfl, rfl, rfl, rfl⟩
theorem sV_k {M : MS} {g n a b k : Nat} {v : Int32} {k' : Nat} (h : k' ≠ k) : gV (sV M g n a b k v) g n a b k' = gV M g n a b k' := if_neg (fun q => h q.2.2.2.2)
theorem gT_sV (M : MS) (g n a b k : Nat) (v : Int32) (y n' a' : Nat) : gT (sV M g n a b k v) y n' a' = gT M y n' a' := rfl
theorem gP_sV (M : MS) (g n a b k : Nat) (v : Int32) (y n' a' : Nat) : gP (sV M g n a b k v) y n' a' = gP M y n' a' := rfl
theorem gX_sV (M : MS) (g n a b k : Nat) (v : Int32) (i : Nat) : gX (sV M g n a b k v) i = gX M i := rfl
theorem mz_sV (M : MS) (g n a b k : Nat) (v : Int32) : mz (sV M g n a b k v) = mz M := rfl
theorem mt_sV (M : MS) (g n a b k : Nat) (v : Int32) : mt (sV M g n a b k v) = mt M := rfl
def bI (p : Prop) [Decidable p] : Int32 := if p then 1 else 0
theorem bI_t {p : Prop} [Decidable p] (h : p) : bI p = 1 := if_pos h
theorem bI_f {p : Prop} [Decidable p] (h : ¬ p) : bI p = 0 := if_neg h
theorem bI_01 (p : Prop) [Decidable p] : bI p = 0 ∨ bI p = 1 := by unfold bI; by_cases h : p <;> simp [h]
theorem bI_ne {p : Prop} [Decidable p] : ¬ bI p = 0 ↔ p := by unfold bI; by_cases h : p <;> simp [h]
theorem bI_eq {p : Prop} [Decidable p] : bI p = 0 ↔ ¬ p := by unfold bI; by_cases h : p <;> simp [h]
end
section
/-! ===== Held: its methods, over the state in numbers ===== -/
abbrev tru (M : MS) (n c f : Nat) (x b : Int32) : Prop := ¬ gV M 2 n c f 0 = 0 ∧ (¬ gV M 2 n c f 4 = 0 ∨ x < gV M 2 n c f 3 ∨ ¬ b = 0)
section HELD
variable {L : Nat} {xs : Nat → Int32} {d : Nat} {hp : AH} {M : MS} {n c f : Nat}
/-- whether it can be trusted -/
theorem s_isTrusted (hR : Rep hp M) (hn : n < 2) (hc : c < 4) (hf : f < 12) (x b : Int32) : WM L xs d mX1_isTrusted [.ref (xi 2 n c f), .int x, .int b] hp (fun v hp' => hp' = hp ∧ v = some (.int (bI (tru M n c f x b)))) := by
  refine WM.of [some (.ref _), some (.int x), some (.int b)] (by decide) rfl (Nat.le_of_ble_eq_true rfl) ?_
  refine wp_aload_n (i := 0) dX1_isTrusted_0 rfl rfl ?_
  refine wr_get (g := 2) (n := n) (a := c) (b := f) (k := 0) dX1_isTrusted_1 hR f_X1_15 (vs2 hn hc hf (by decide)) (by decide) (by decide) ?_
  refine wp_if_eq (tgt := 30) dX1_isTrusted_4 (by decide) (fun c4 => ?_) (fun c4 => ?_)
  · skip
    refine wp_iconst (v := 0) dX1_isTrusted_30 rfl ?_
    refine wp_ret (v := some (.int _)) dX1_isTrusted_31 rfl ?_
    exact ⟨by first | exact Or.inr rfl | exact Or.inl rfl, rfl, by congr 2; simp only [bI, tru]; simp [*]⟩
  · skip
    refine wp_aload_n (i := 0) dX1_isTrusted_7 rfl rfl ?_
    refine wr_get (g := 2) (n := n) (a := c) (b := f) (k := 4) dX1_isTrusted_8 hR f_X1_19 (vs2 hn hc hf (by decide)) (by decide) (by decide) ?_
    refine wp_if_ne (tgt := 26) dX1_isTrusted_11 (by decide) (fun c11 => ?_) (fun c11 => ?_)
    · skip
      refine wp_iconst (v := 1) dX1_isTrusted_26 rfl ?_
      refine wp_goto (tgt := 31) dX1_isTrusted_27 (by decide) ?_
      refine wp_ret (v := some (.int _)) dX1_isTrusted_31 rfl ?_
      exact ⟨by first | exact Or.inr rfl | exact Or.inl rfl, rfl, by congr 2; simp only [bI, tru]; simp [*]⟩
    · skip
      refine wp_iload_n (i := 1) dX1_isTrusted_14 rfl rfl ?_
      refine wp_aload_n (i := 0) dX1_isTrusted_15 rfl rfl ?_
      refine wr_get (g := 2) (n := n) (a := c) (b := f) (k := 3) dX1_isTrusted_16 hR f_X1_9 (vs2 hn hc hf (by decide)) (by decide) (by decide) ?_
      refine wp_icmp_lt (tgt := 26) dX1_isTrusted_19 (by decide) (fun c19 => ?_) (fun c19 => ?_)
      · skip
        refine wp_iconst (v := 1) dX1_isTrusted_26 rfl ?_
        refine wp_goto (tgt := 31) dX1_isTrusted_27 (by decide) ?_
        refine wp_ret (v := some (.int _)) dX1_isTrusted_31 rfl ?_
        exact ⟨by first | exact Or.inr rfl | exact Or.inl rfl, rfl, by congr 2; simp only [bI, tru]; simp [*]⟩
      · skip
        refine wp_iload_n (i := 2) dX1_isTrusted_22 rfl rfl ?_
        refine wp_if_eq (tgt := 30) dX1_isTrusted_23 (by decide) (fun c23 => ?_) (fun c23 => ?_)
        · skip
          refine wp_iconst (v := 0) dX1_isTrusted_30 rfl ?_
          refine wp_ret (v := some (.int _)) dX1_isTrusted_31 rfl ?_
          exact ⟨by first | exact Or.inr rfl | exact Or.inl rfl, rfl, by congr 2; simp only [bI, tru]; simp [*]⟩
        · skip
          refine wp_iconst (v := 1) dX1_isTrusted_26 rfl ?_
          refine wp_goto (tgt := 31) dX1_isTrusted_27 (by decide) ?_
          refine wp_ret (v := some (.int _)) dX1_isTrusted_31 rfl ?_
          exact ⟨by first | exact Or.inr rfl | exact Or.inl rfl, rfl, by congr 2; simp only [bI, tru]; simp [*]⟩
def mPut (M : MS) (n c f : Nat) (x t : Int32) : MS := if gV M 2 n c f 4 = 0 then sV (sV (sV M 2 n c f 1 x) 2 n c f 4 1) 2 n c f 5 t else sV M 2 n c f 1 x
/-- written -/
theorem s_putContent (hR : Rep hp M) (hn : n < 2) (hc : c < 4) (hf : f < 12) (x t : Int32) : WM L xs d mX1_putContent [.ref (xi 2 n c f), .int x, .int t] hp (fun v hp' => v = none ∧ Rep hp' (mPut M n c f x t)) := by
  refine WM.of [some (.ref _), some (.int x), some (.int t)] (by decide) rfl (Nat.le_of_ble_eq_true rfl) ?_
  refine wp_aload_n (i := 0) dX1_putContent_0 rfl rfl ?_
  refine wp_iload_n (i := 1) dX1_putContent_1 rfl rfl ?_
  refine wr_put (g := 2) (n := n) (a := c) (b := f) (k := 1) dX1_putContent_2 hR (p_X1_22 rfl) (vs2 hn hc hf (by decide)) (by decide) (by decide) (okI rfl) (fun hp2 hR1 => ?_)
  refine wp_aload_n (i := 0) dX1_putContent_5 rfl rfl ?_
  refine wr_get (g := 2) (n := n) (a := c) (b := f) (k := 4) dX1_putContent_6 hR1 f_X1_19 (vs2 hn hc hf (by decide)) (by decide) (by decide) ?_
  refine wp_if_ne (tgt := 22) dX1_putContent_9 (by decide) (fun c9 => ?_) (fun c9 => ?_)
  · skip
    refine wp_ret (v := none) dX1_putContent_22 rfl ?_
    have c9 := c9
    simp only [gV_sV, true_and, and_true, and_self, reduceCtorEq, if_true, if_false, Nat.reduceEqDiff, and_false, false_and] at c9
    refine ⟨trivial, rfl, ?_⟩
    unfold mPut
    first | rw [if_pos (by assumption)]; exact hR1 | rw [if_neg (by assumption)]; exact hR1
  · skip
    refine wp_aload_n (i := 0) dX1_putContent_12 rfl rfl ?_
    refine wp_iconst (v := 1) dX1_putContent_13 rfl ?_
    refine wr_put (g := 2) (n := n) (a := c) (b := f) (k := 4) dX1_putContent_14 hR1 (p_X1_19 rfl) (vs2 hn hc hf (by decide)) (by decide) (by decide) (okB rfl (by decide)) (fun hp4 hR3 => ?_)
    refine wp_aload_n (i := 0) dX1_putContent_17 rfl rfl ?_
    refine wp_iload_n (i := 2) dX1_putContent_18 rfl rfl ?_
    refine wr_put (g := 2) (n := n) (a := c) (b := f) (k := 5) dX1_putContent_19 hR3 (p_X1_25 rfl) (vs2 hn hc hf (by decide)) (by decide) (by decide) (okI rfl) (fun hp6 hR5 => ?_)
    refine wp_ret (v := none) dX1_putContent_22 rfl ?_
    have c9 := c9
    simp only [gV_sV, true_and, and_true, and_self, reduceCtorEq, if_true, if_false, Nat.reduceEqDiff, and_false, false_and] at c9
    refine ⟨trivial, rfl, ?_⟩
    unfold mPut
    first | rw [if_pos (by assumption)]; exact hR5 | rw [if_neg (by assumption)]; exact hR5
def mGiven (M : MS) (n c f : Nat) (x v u : Int32) : MS := sV (sV (sV (sV (sV M 2 n c f 0 1) 2 n c f 1 x) 2 n c f 2 v) 2 n c f 3 u) 2 n c f 4 0
/-- given -/
theorem s_beGiven (hR : Rep hp M) (hn : n < 2) (hc : c < 4) (hf : f < 12) (x w u : Int32) : WM L xs d mX1_beGiven [.ref (xi 2 n c f), .int x, .int w, .int u] hp (fun v hp' => v = none ∧ Rep hp' (mGiven M n c f x w u)) := by
  refine WM.of [some (.ref _), some (.int x), some (.int w), some (.int u)] (by decide) rfl (Nat.le_of_ble_eq_true rfl) ?_
  refine wp_aload_n (i := 0) dX1_beGiven_0 rfl rfl ?_
  refine wp_iconst (v := 1) dX1_beGiven_1 rfl ?_
  refine wr_put (g := 2) (n := n) (a := c) (b := f) (k := 0) dX1_beGiven_2 hR (p_X1_15 rfl) (vs2 hn hc hf (by decide)) (by decide) (by decide) (okB rfl (by decide)) (fun hp2 hR1 => ?_)
  refine wp_aload_n (i := 0) dX1_beGiven_5 rfl rfl ?_
  refine wp_iload_n (i := 1) dX1_beGiven_6 rfl rfl ?_
  refine wr_put (g := 2) (n := n) (a := c) (b := f) (k := 1) dX1_beGiven_7 hR1 (p_X1_22 rfl) (vs2 hn hc hf (by decide)) (by decide) (by decide) (okI rfl) (fun hp4 hR3 => ?_)
  refine wp_aload_n (i := 0) dX1_beGiven_10 rfl rfl ?_
  refine wp_iload_n (i := 2) dX1_beGiven_11 rfl rfl ?_
  refine wr_put (g := 2) (n := n) (a := c) (b := f) (k := 2) dX1_beGiven_12 hR3 (p_X1_28 rfl) (vs2 hn hc hf (by decide)) (by decide) (by decide) (okI rfl) (fun hp6 hR5 => ?_)
  refine wp_aload_n (i := 0) dX1_beGiven_15 rfl rfl ?_
  refine wp_iload_n (i := 3) dX1_beGiven_16 rfl rfl ?_
  refine wr_put (g := 2) (n := n) (a := c) (b := f) (k := 3) dX1_beGiven_17 hR5 (p_X1_9 rfl) (vs2 hn hc hf (by decide)) (by decide) (by decide) (okI rfl) (fun hp8 hR7 => ?_)
  refine wp_aload_n (i := 0) dX1_beGiven_20 rfl rfl ?_
  refine wp_iconst (v := 0) dX1_beGiven_21 rfl ?_
  refine wr_put (g := 2) (n := n) (a := c) (b := f) (k := 4) dX1_beGiven_22 hR7 (p_X1_19 rfl) (vs2 hn hc hf (by decide)) (by decide) (by decide) (okB rfl (by decide)) (fun hp10 hR9 => ?_)
  refine wp_ret (v := none) dX1_beGiven_25 rfl ?_
  exact ⟨trivial, rfl, hR9⟩
def mStored (M : MS) (n c f : Nat) (x v u : Int32) : MS := if gV M 2 n c f 0 = 0 then sV M 2 n c f 7 0 else if gV M 2 n c f 1 = x then sV (sV (sV (sV M 2 n c f 7 0) 2 n c f 2 v) 2 n c f 3 u) 2 n c f 4 0 else sV (sV (sV M 2 n c f 7 0) 2 n c f 2 v) 2 n c f 3 u
/-- stored -/
theorem s_beStored (hR : Rep hp M) (hn : n < 2) (hc : c < 4) (hf : f < 12) (x w u : Int32) : WM L xs d mX1_beStored [.ref (xi 2 n c f), .int x, .int w, .int u] hp (fun v hp' => v = none ∧ Rep hp' (mStored M n c f x w u)) := by
  refine WM.of [some (.ref _), some (.int x), some (.int w), some (.int u)] (by decide) rfl (Nat.le_of_ble_eq_true rfl) ?_
  refine wp_aload_n (i := 0) dX1_beStored_0 rfl rfl ?_
  refine wp_iconst (v := 0) dX1_beStored_1 rfl ?_
  refine wr_put (g := 2) (n := n) (a := c) (b := f) (k := 7) dX1_beStored_2 hR (p_X1_31 rfl) (vs2 hn hc hf (by decide)) (by decide) (by decide) (okB rfl (by decide)) (fun hp2 hR1 => ?_)
  refine wp_aload_n (i := 0) dX1_beStored_5 rfl rfl ?_
  refine wr_get (g := 2) (n := n) (a := c) (b := f) (k := 0) dX1_beStored_6 hR1 f_X1_15 (vs2 hn hc hf (by decide)) (by decide) (by decide) ?_
  refine wp_if_ne (tgt := 13) dX1_beStored_9 (by decide) (fun c9 => ?_) (fun c9 => ?_)
  · skip
    refine wp_aload_n (i := 0) dX1_beStored_13 rfl rfl ?_
    refine wp_iload_n (i := 2) dX1_beStored_14 rfl rfl ?_
    refine wr_put (g := 2) (n := n) (a := c) (b := f) (k := 2) dX1_beStored_15 hR1 (p_X1_28 rfl) (vs2 hn hc hf (by decide)) (by decide) (by decide) (okI rfl) (fun hp4 hR3 => ?_)
    refine wp_aload_n (i := 0) dX1_beStored_18 rfl rfl ?_
    refine wp_iload_n (i := 3) dX1_beStored_19 rfl rfl ?_
    refine wr_put (g := 2) (n := n) (a := c) (b := f) (k := 3) dX1_beStored_20 hR3 (p_X1_9 rfl) (vs2 hn hc hf (by decide)) (by decide) (by decide) (okI rfl) (fun hp6 hR5 => ?_)
    refine wp_aload_n (i := 0) dX1_beStored_23 rfl rfl ?_
    refine wr_get (g := 2) (n := n) (a := c) (b := f) (k := 1) dX1_beStored_24 hR5 f_X1_22 (vs2 hn hc hf (by decide)) (by decide) (by decide) ?_
    refine wp_iload_n (i := 1) dX1_beStored_27 rfl rfl ?_
    refine wp_icmp_ne (tgt := 36) dX1_beStored_28 (by decide) (fun c28 => ?_) (fun c28 => ?_)
    · skip
      refine wp_ret (v := none) dX1_beStored_36 rfl ?_
      have c9 := c9
      simp only [gV_sV, true_and, and_true, and_self, reduceCtorEq, if_true, if_false, Nat.reduceEqDiff, and_false, false_and] at c9
      have c28 := c28
      simp only [gV_sV, true_and, and_true, and_self, reduceCtorEq, if_true, if_false, Nat.reduceEqDiff, and_false, false_and] at c28
      refine ⟨trivial, rfl, ?_⟩
      unfold mStored
      first | (rw [if_pos (by assumption)]; exact hR5) | (rw [if_neg (by assumption), if_pos (by assumption)]; exact hR5) | (rw [if_neg (by assumption), if_neg (by assumption)]; exact hR5)
    · skip
      refine wp_aload_n (i := 0) dX1_beStored_31 rfl rfl ?_
      refine wp_iconst (v := 0) dX1_beStored_32 rfl ?_
      refine wr_put (g := 2) (n := n) (a := c) (b := f) (k := 4) dX1_beStored_33 hR5 (p_X1_19 rfl) (vs2 hn hc hf (by decide)) (by decide) (by decide) (okB rfl (by decide)) (fun hp8 hR7 => ?_)
      refine wp_ret (v := none) dX1_beStored_36 rfl ?_
      have c9 := c9
      simp only [gV_sV, true_and, and_true, and_self, reduceCtorEq, if_true, if_false, Nat.reduceEqDiff, and_false, false_and] at c9
      have c28 := c28
      simp only [gV_sV, true_and, and_true, and_self, reduceCtorEq, if_true, if_false, Nat.reduceEqDiff, and_false, false_and] at c28
      refine ⟨trivial, rfl, ?_⟩
      unfold mStored
      first | (rw [if_pos (by assumption)]; exact hR7) | (rw [if_neg (by assumption), if_pos (by assumption)]; exact hR7) | (rw [if_neg (by assumption), if_neg (by assumption)]; exact hR7)
  · skip
    refine wp_ret (v := none) dX1_beStored_12 rfl ?_
    have c9 := c9
    simp only [gV_sV, true_and, and_true, and_self, reduceCtorEq, if_true, if_false, Nat.reduceEqDiff, and_false, false_and] at c9
    refine ⟨trivial, rfl, ?_⟩
    unfold mStored
    first | (rw [if_pos (by assumption)]; exact hR1) | (rw [if_neg (by assumption), if_pos (by assumption)]; exact hR1) | (rw [if_neg (by assumption), if_neg (by assumption)]; exact hR1)
def hTell (M : MS) (n c f : Nat) (k : Nat) (x b : Int32) : Int32 := match k with
  | 0 => if gV M 2 n c f 0 = 0 then -1 else gV M 2 n c f 1
  | 1 => if gV M 2 n c f 0 = 0 then -1 else gV M 2 n c f 2
  | 2 => if gV M 2 n c f 4 = 0 then 0 else 1
  | 3 => if gV M 2 n c f 0 = 0 then -1 else if x < gV M 2 n c f 3 then gV M 2 n c f 3 else -1
  | 4 => bI (tru M n c f x b)
  | _ => (if gV M 2 n c f 6 = 0 then 0 else 1) + (if gV M 2 n c f 7 = 0 then 0 else 2)
/-- asked -/
theorem s_heTell (hR : Rep hp M) (hn : n < 2) (hc : c < 4) (hf : f < 12) (x b : Int32) {k : Nat} (hk : k < 6) : WM L xs (d + 1) mX1_tell [.ref (xi 2 n c f), .int (nI k), .int x, .int b] hp (fun v hp' => hp' = hp ∧ v = some (.int (hTell M n c f k x b))) := by
  refine WM.of [some (.ref _), some (.int (nI k)), some (.int x), some (.int b)] (by decide) rfl (Nat.le_of_ble_eq_true rfl) ?_
  rcases (show k = 0 ∨ k = 1 ∨ k = 2 ∨ k = 3 ∨ k = 4 ∨ k = 5 by omega) with rfl | rfl | rfl | rfl | rfl | rfl
  · skip
    refine wp_iload_n (i := 1) dX1_tell_0 rfl rfl ?_
    refine wp_tabIn dX1_tell_1 (by decide) (by decide) (off := 35) (tgt := 36) (by decide) (by decide) ?_
    refine wp_aload_n (i := 0) dX1_tell_36 rfl rfl ?_
    refine wr_get (g := 2) (n := n) (a := c) (b := f) (k := 0) dX1_tell_37 hR f_X1_15 (vs2 hn hc hf (by decide)) (by decide) (by decide) ?_
    refine wp_if_eq (tgt := 50) dX1_tell_40 (by decide) (fun c40 => ?_) (fun c40 => ?_)
    · skip
      refine wp_iconst (v := (-1)) dX1_tell_50 rfl ?_
      refine wp_ret (v := some (.int _)) dX1_tell_51 rfl ?_
      refine ⟨trivial, rfl, ?_⟩
      congr 2
      unfold hTell
      simp only [*, if_true, if_false, not_true_eq_false, not_false_eq_true]
      first | done | rfl | simp [*]
    · skip
      refine wp_aload_n (i := 0) dX1_tell_43 rfl rfl ?_
      refine wr_get (g := 2) (n := n) (a := c) (b := f) (k := 1) dX1_tell_44 hR f_X1_22 (vs2 hn hc hf (by decide)) (by decide) (by decide) ?_
      refine wp_goto (tgt := 51) dX1_tell_47 (by decide) ?_
      refine wp_ret (v := some (.int _)) dX1_tell_51 rfl ?_
      refine ⟨trivial, rfl, ?_⟩
      congr 2
      unfold hTell
      simp only [*, if_true, if_false, not_true_eq_false, not_false_eq_true]
      first | done | rfl | simp [*]
  · skip
    refine wp_iload_n (i := 1) dX1_tell_0 rfl rfl ?_
    refine wp_tabIn dX1_tell_1 (by decide) (by decide) (off := 51) (tgt := 52) (by decide) (by decide) ?_
    refine wp_aload_n (i := 0) dX1_tell_52 rfl rfl ?_
    refine wr_get (g := 2) (n := n) (a := c) (b := f) (k := 0) dX1_tell_53 hR f_X1_15 (vs2 hn hc hf (by decide)) (by decide) (by decide) ?_
    refine wp_if_eq (tgt := 66) dX1_tell_56 (by decide) (fun c56 => ?_) (fun c56 => ?_)
    · skip
      refine wp_iconst (v := (-1)) dX1_tell_66 rfl ?_
      refine wp_ret (v := some (.int _)) dX1_tell_67 rfl ?_
      refine ⟨trivial, rfl, ?_⟩
      congr 2
      unfold hTell
      simp only [*, if_true, if_false, not_true_eq_false, not_false_eq_true]
      first | done | rfl | simp [*]
    · skip
      refine wp_aload_n (i := 0) dX1_tell_59 rfl rfl ?_
      refine wr_get (g := 2) (n := n) (a := c) (b := f) (k := 2) dX1_tell_60 hR f_X1_28 (vs2 hn hc hf (by decide)) (by decide) (by decide) ?_
      refine wp_goto (tgt := 67) dX1_tell_63 (by decide) ?_
      refine wp_ret (v := some (.int _)) dX1_tell_67 rfl ?_
      refine ⟨trivial, rfl, ?_⟩
      congr 2
      unfold hTell
      simp only [*, if_true, if_false, not_true_eq_false, not_false_eq_true]
      first | done | rfl | simp [*]
  · skip
    refine wp_iload_n (i := 1) dX1_tell_0 rfl rfl ?_
    refine wp_tabIn dX1_tell_1 (by decide) (by decide) (off := 67) (tgt := 68) (by decide) (by decide) ?_
    refine wp_aload_n (i := 0) dX1_tell_68 rfl rfl ?_
    refine wr_get (g := 2) (n := n) (a := c) (b := f) (k := 4) dX1_tell_69 hR f_X1_19 (vs2 hn hc hf (by decide)) (by decide) (by decide) ?_
    refine wp_if_eq (tgt := 79) dX1_tell_72 (by decide) (fun c72 => ?_) (fun c72 => ?_)
    · skip
      refine wp_iconst (v := 0) dX1_tell_79 rfl ?_
      refine wp_ret (v := some (.int _)) dX1_tell_80 rfl ?_
      refine ⟨trivial, rfl, ?_⟩
      congr 2
      unfold hTell
      simp only [*, if_true, if_false, not_true_eq_false, not_false_eq_true]
      first | done | rfl | simp [*]
    · skip
      refine wp_iconst (v := 1) dX1_tell_75 rfl ?_
      refine wp_goto (tgt := 80) dX1_tell_76 (by decide) ?_
      refine wp_ret (v := some (.int _)) dX1_tell_80 rfl ?_
      refine ⟨trivial, rfl, ?_⟩
      congr 2
      unfold hTell
      simp only [*, if_true, if_false, not_true_eq_false, not_false_eq_true]
      first | done | rfl | simp [*]
  · skip
    refine wp_iload_n (i := 1) dX1_tell_0 rfl rfl ?_
    refine wp_tabIn dX1_tell_1 (by decide) (by decide) (off := 80) (tgt := 81) (by decide) (by decide) ?_
    refine wp_aload_n (i := 0) dX1_tell_81 rfl rfl ?_
    refine wr_get (g := 2) (n := n) (a := c) (b := f) (k := 0) dX1_tell_82 hR f_X1_15 (vs2 hn hc hf (by decide)) (by decide) (by decide) ?_
    refine wp_if_eq (tgt := 103) dX1_tell_85 (by decide) (fun c85 => ?_) (fun c85 => ?_)
    · skip
      refine wp_iconst (v := (-1)) dX1_tell_103 rfl ?_
      refine wp_ret (v := some (.int _)) dX1_tell_104 rfl ?_
      refine ⟨trivial, rfl, ?_⟩
      congr 2
      unfold hTell
      simp only [*, if_true, if_false, not_true_eq_false, not_false_eq_true]
      first | done | rfl | simp [*]
    · skip
      refine wp_iload_n (i := 2) dX1_tell_88 rfl rfl ?_
      refine wp_aload_n (i := 0) dX1_tell_89 rfl rfl ?_
      refine wr_get (g := 2) (n := n) (a := c) (b := f) (k := 3) dX1_tell_90 hR f_X1_9 (vs2 hn hc hf (by decide)) (by decide) (by decide) ?_
      refine wp_icmp_ge (tgt := 103) dX1_tell_93 (by decide) (fun c93 => ?_) (fun c93 => ?_)
      · skip
        refine wp_iconst (v := (-1)) dX1_tell_103 rfl ?_
        refine wp_ret (v := some (.int _)) dX1_tell_104 rfl ?_
        refine ⟨trivial, rfl, ?_⟩
        congr 2
        unfold hTell
        simp only [*, if_true, if_false, not_true_eq_false, not_false_eq_true]
        first | done | rfl | simp [*]
      · skip
        refine wp_aload_n (i := 0) dX1_tell_96 rfl rfl ?_
        refine wr_get (g := 2) (n := n) (a := c) (b := f) (k := 3) dX1_tell_97 hR f_X1_9 (vs2 hn hc hf (by decide)) (by decide) (by decide) ?_
        refine wp_goto (tgt := 104) dX1_tell_100 (by decide) ?_
        refine wp_ret (v := some (.int _)) dX1_tell_104 rfl ?_
        refine ⟨trivial, rfl, ?_⟩
        congr 2
        unfold hTell
        simp only [*, if_true, if_false, not_true_eq_false, not_false_eq_true]
        first | done | rfl | simp [*]
  · skip
    refine wp_iload_n (i := 1) dX1_tell_0 rfl rfl ?_
    refine wp_tabIn dX1_tell_1 (by decide) (by decide) (off := 104) (tgt := 105) (by decide) (by decide) ?_
    refine wp_aload_n (i := 0) dX1_tell_105 rfl rfl ?_
    refine wp_iload_n (i := 2) dX1_tell_106 rfl rfl ?_
    refine wp_iload_n (i := 3) dX1_tell_107 rfl rfl ?_
    refine wp_callV (N := mX1_isTrusted) dX1_tell_108 l_X1_34 v_X1_isTrusted rfl (hR.oo (vs2 hn hc hf (k := 0) (by decide)) (by decide)) rfl (by decide) (s_isTrusted hR hn hc hf x b) (fun v hp1 hq => ?_)
    obtain ⟨rfl, rfl⟩ := hq
    refine wp_if_eq (tgt := 118) dX1_tell_111 (by decide) (fun c111 => ?_) (fun c111 => ?_)
    · skip
      refine wp_iconst (v := 0) dX1_tell_118 rfl ?_
      refine wp_ret (v := some (.int _)) dX1_tell_119 rfl ?_
      refine ⟨trivial, rfl, ?_⟩
      congr 2
      unfold hTell
      first | (have c9 := bI_ne.mp (by assumption); exact (bI_t c9).symm) | (have c9 := bI_eq.mp (by assumption); exact (bI_f c9).symm)
    · skip
      refine wp_iconst (v := 1) dX1_tell_114 rfl ?_
      refine wp_goto (tgt := 119) dX1_tell_115 (by decide) ?_
      refine wp_ret (v := some (.int _)) dX1_tell_119 rfl ?_
      refine ⟨trivial, rfl, ?_⟩
      congr 2
      unfold hTell
      first | (have c9 := bI_ne.mp (by assumption); exact (bI_t c9).symm) | (have c9 := bI_eq.mp (by assumption); exact (bI_f c9).symm)
  · skip
    refine wp_iload_n (i := 1) dX1_tell_0 rfl rfl ?_
    refine wp_tabOut dX1_tell_1 (tgt := 120) (by decide) (by decide) ?_
    refine wp_aload_n (i := 0) dX1_tell_120 rfl rfl ?_
    refine wr_get (g := 2) (n := n) (a := c) (b := f) (k := 6) dX1_tell_121 hR f_X1_38 (vs2 hn hc hf (by decide)) (by decide) (by decide) ?_
    refine wp_if_eq (tgt := 131) dX1_tell_124 (by decide) (fun c124 => ?_) (fun c124 => ?_)
    · skip
      refine wp_iconst (v := 0) dX1_tell_131 rfl ?_
      refine wp_aload_n (i := 0) dX1_tell_132 rfl rfl ?_
      refine wr_get (g := 2) (n := n) (a := c) (b := f) (k := 7) dX1_tell_133 hR f_X1_31 (vs2 hn hc hf (by decide)) (by decide) (by decide) ?_
      refine wp_if_eq (tgt := 143) dX1_tell_136 (by decide) (fun c136 => ?_) (fun c136 => ?_)
      · skip
        refine wp_iconst (v := 0) dX1_tell_143 rfl ?_
        refine wp_iadd dX1_tell_144 ?_
        refine wp_ret (v := some (.int _)) dX1_tell_145 rfl ?_
        refine ⟨trivial, rfl, ?_⟩
        congr 2
        unfold hTell
        simp only [*, if_true, if_false, not_true_eq_false, not_false_eq_true]
        first | done | rfl | simp [*]
      · skip
        refine wp_iconst (v := 2) dX1_tell_139 rfl ?_
        refine wp_goto (tgt := 144) dX1_tell_140 (by decide) ?_
        refine wp_iadd dX1_tell_144 ?_
        refine wp_ret (v := some (.int _)) dX1_tell_145 rfl ?_
        refine ⟨trivial, rfl, ?_⟩
        congr 2
        unfold hTell
        simp only [*, if_true, if_false, not_true_eq_false, not_false_eq_true]
        first | done | rfl | simp [*]
    · skip
      refine wp_iconst (v := 1) dX1_tell_127 rfl ?_
      refine wp_goto (tgt := 132) dX1_tell_128 (by decide) ?_
      refine wp_aload_n (i := 0) dX1_tell_132 rfl rfl ?_
      refine wr_get (g := 2) (n := n) (a := c) (b := f) (k := 7) dX1_tell_133 hR f_X1_31 (vs2 hn hc hf (by decide)) (by decide) (by decide) ?_
      refine wp_if_eq (tgt := 143) dX1_tell_136 (by decide) (fun c136 => ?_) (fun c136 => ?_)
      · skip
        refine wp_iconst (v := 0) dX1_tell_143 rfl ?_
        refine wp_iadd dX1_tell_144 ?_
        refine wp_ret (v := some (.int _)) dX1_tell_145 rfl ?_
        refine ⟨trivial, rfl, ?_⟩
        congr 2
        unfold hTell
        simp only [*, if_true, if_false, not_true_eq_false, not_false_eq_true]
        first | done | rfl | simp [*]
      · skip
        refine wp_iconst (v := 2) dX1_tell_139 rfl ?_
        refine wp_goto (tgt := 144) dX1_tell_140 (by decide) ?_
        refine wp_iadd dX1_tell_144 ?_
        refine wp_ret (v := some (.int _)) dX1_tell_145 rfl ?_
        refine ⟨trivial, rfl, ?_⟩
        congr 2
        unfold hTell
        simp only [*, if_true, if_false, not_true_eq_false, not_false_eq_true]
        first | done | rfl | simp [*]
end HELD
end
section
/-! ===== a table changes ===== -/
def sW (M : MS) (z t y n a : Nat) (r : List Row) (cap : Nat) : MS := (z, t, M.2.2.1, (fun y' n' a' => if y' = y ∧ n' = n ∧ a' = a then (r, cap) else M.2.2.2.1 y' n' a'), M.2.2.2.2)
theorem vt_cases {y n a : Nat} (h : vt y n a) {P : Nat → Nat → Nat → Prop} (p0 : n < 2 → a < 4 → P 0 n a) (p1 : n < 2 → a < 12 → P 1 n a) (p2 : n < 2 → a < 9 → P 2 n a) : P y n a := by
  obtain ⟨v1, v2⟩ := h
  match y, v2 with
  | 0, v2 => exact p0 v1 v2
  | 1, v2 => exact p1 v1 v2
  | 2, v2 => exact p2 v1 v2
  | n + 3, v2 => exact v2.elim
theorem xt_inj {y n a y' n' a' : Nat} (h : vt y n a) (h' : vt y' n' a') : (xt y n a = xt y' n' a' → y = y' ∧ n = n' ∧ a = a') ∧ xt y n a ≠ xt y' n' a' + 1 := by
  refine vt_cases h (P := fun y n a => (xt y n a = xt y' n' a' → y = y' ∧ n = n' ∧ a = a') ∧ xt y n a ≠ xt y' n' a' + 1) ?_ ?_ ?_
  · intro hn ha
    refine vt_cases h' (P := fun y' n' a' => (xt 0 n a = xt y' n' a' → 0 = y' ∧ n = n' ∧ a = a') ∧ xt 0 n a ≠ xt y' n' a' + 1) ?_ ?_ ?_ <;> intro hn' ha' <;> refine ⟨fun e => ?_, fun e => ?_⟩ <;> simp only [xt] at e <;> rcases (show n = 0 ∨ n = 1 by omega) with rfl | rfl <;> rcases (show n' = 0 ∨ n' = 1 by omega) with rfl | rfl <;> first | (exfalso; omega) | exact ⟨rfl, by omega, by omega⟩
  · intro hn ha
    refine vt_cases h' (P := fun y' n' a' => (xt 1 n a = xt y' n' a' → 1 = y' ∧ n = n' ∧ a = a') ∧ xt 1 n a ≠ xt y' n' a' + 1) ?_ ?_ ?_ <;> intro hn' ha' <;> refine ⟨fun e => ?_, fun e => ?_⟩ <;> simp only [xt] at e <;> rcases (show n = 0 ∨ n = 1 by omega) with rfl | rfl <;> rcases (show n' = 0 ∨ n' = 1 by omega) with rfl | rfl <;> first | (exfalso; omega) | exact ⟨rfl, by omega, by omega⟩
  · intro hn ha
    refine vt_cases h' (P := fun y' n' a' => (xt 2 n a = xt y' n' a' → 2 = y' ∧ n = n' ∧ a = a') ∧ xt 2 n a ≠ xt y' n' a' + 1) ?_ ?_ ?_ <;> intro hn' ha' <;> refine ⟨fun e => ?_, fun e => ?_⟩ <;> simp only [xt] at e <;> rcases (show n = 0 ∨ n = 1 by omega) with rfl | rfl <;> rcases (show n' = 0 ∨ n' = 1 by omega) with rfl | rfl <;> first | (exfalso; omega) | exact ⟨rfl, by omega, by omega⟩
theorem xt_apart {y n a : Nat} (h : vt y n a) : (∀ n', n' < 2 → rC n' ≠ xt y n a ∧ rC n' ≠ xt y n a + 1 ∧ rS n' ≠ xt y n a ∧ rS n' ≠ xt y n a + 1 ∧ rT n' ≠ xt y n a ∧ rT n' ≠ xt y n a + 1) ∧ (∀ n' c, n' < 2 → c < 4 → rF n' c ≠ xt y n a ∧ rF n' c ≠ xt y n a + 1) := by
  refine vt_cases h (P := fun y n a => (∀ n', n' < 2 → rC n' ≠ xt y n a ∧ rC n' ≠ xt y n a + 1 ∧ rS n' ≠ xt y n a ∧ rS n' ≠ xt y n a + 1 ∧ rT n' ≠ xt y n a ∧ rT n' ≠ xt y n a + 1) ∧ (∀ n' c, n' < 2 → c < 4 → rF n' c ≠ xt y n a ∧ rF n' c ≠ xt y n a + 1)) ?_ ?_ ?_ <;> intro hn ha <;> simp only [xt, rC, rS, rT, rF] <;> refine ⟨fun n' hn' => ?_, fun n' c hn' hc => ?_⟩ <;> rcases (show n = 0 ∨ n = 1 by omega) with rfl | rfl <;> rcases (show n' = 0 ∨ n' = 1 by omega) with rfl | rfl <;> omega
theorem TabAt.frame {hp hp' : AH} {i w : Nat} {r : List Row} {cap : Nat} (h : TabAt hp i w r cap) (hz : hsz hp ≤ hsz hp') (h1 : hk hp' i = hk hp i) (h2 : ∀ k, hv hp' i k = hv hp i k) (h3 : hk hp' (aix hp i) = hk hp (aix hp i)) (h4 : ∀ k, hv hp' (aix hp i) k = hv hp (aix hp i) k) : TabAt hp' i w r cap := by
  have e : aix hp' i = aix hp i := by unfold aix; rw [h2 1]
  obtain ⟨a1, a2, a3, a4, a5, a6, a7, a8, a9, a10, a11⟩ := h
  unfold TabAt
  rw [e]
  exact ⟨by rw [h1]; exact a1, by rw [h2]; exact a2, by rw [h2]; exact a3, by rw [h2]; exact a4, a5, Nat.le_trans a6 hz, by rw [h3]; exact a7, a8, a9, fun j hj => by rw [h4]; exact a10 j hj, fun k q hq c hc => by rw [h4]; exact a11 k q hq c hc⟩
theorem Rep.tab {hp hp' : AH} {M : MS} (h : Rep hp M) {y n a : Nat} (ht : vt y n a) {r : List Row} {cap : Nat} (hz : hsz hp ≤ hsz hp') (hfr : ∀ i, i ≤ hsz hp → i ≠ xt y n a → i ≠ aix hp (xt y n a) → hk hp' i = hk hp i ∧ ∀ k, hv hp' i k = hv hp i k) (hT : TabAt hp' (xt y n a) (tw y) r cap) (hA : aix hp' (xt y n a) = aix hp (xt y n a) ∨ hsz hp < aix hp' (xt y n a)) : Rep hp' (sW M (hsz hp') (htot hp') y n a r cap) := by
  obtain ⟨r1, r2, r3, r4, r5, r6, r7, r8, r9, r10, r11, r12, r13⟩ := h
  obtain ⟨d1, d2⟩ := xt_apart ht
  have hl := xt_le ht
  have ha := (r11 y n a ht).2.2.2.2.1
  have key : ∀ i, i ≤ 277 → i ≠ xt y n a → i ≠ xt y n a + 1 → hk hp' i = hk hp i ∧ ∀ k, hv hp' i k = hv hp i k := by
    intro i h1 h2 h3
    refine hfr i (by omega) h2 ?_
    rcases ha with e | e
    · rw [e]; exact h3
    · omega
  have kx : ∀ {g n' a' b k : Nat}, vs g n' a' b k → hk hp' (xi g n' a' b) = hk hp (xi g n' a' b) ∧ ∀ k, hv hp' (xi g n' a' b) k = hv hp (xi g n' a' b) k := by
    intro g n' a' b k hs
    have h1 := (xi_apart hs).2.2.2.2 y n a ht
    exact key _ (xi_le hs).2 h1.1 h1.2
  have kt : ∀ {y' n' a' : Nat}, vt y' n' a' → ¬ (y' = y ∧ n' = n ∧ a' = a) → (hk hp' (xt y' n' a') = hk hp (xt y' n' a') ∧ ∀ k, hv hp' (xt y' n' a') k = hv hp (xt y' n' a') k) ∧ (hk hp' (aix hp (xt y' n' a')) = hk hp (aix hp (xt y' n' a')) ∧ ∀ k, hv hp' (aix hp (xt y' n' a')) k = hv hp (aix hp (xt y' n' a')) k) := by
    intro y' n' a' ht' hne
    obtain ⟨x1, x2⟩ := xt_inj ht' ht
    obtain ⟨x3, x4⟩ := xt_inj ht ht'
    have hl' := xt_le ht'
    have ta := (r11 y' n' a' ht').2.2.2.2
    refine ⟨key _ (by omega) (fun q => hne (x1 q)) x2, hfr _ ta.2.1 ?_ ?_⟩
    · rcases ta.1 with e | e
      · rw [e]; exact fun q => x4 q.symm
      · omega
    · exact fun q => hne (r12 _ _ _ _ _ _ ht' ht q)
  have aixk : ∀ {y' n' a' : Nat}, vt y' n' a' → ¬ (y' = y ∧ n' = n ∧ a' = a) → aix hp' (xt y' n' a') = aix hp (xt y' n' a') := by
    intro y' n' a' ht' hne
    unfold aix
    rw [(kt ht' hne).1.2 1]
  refine ⟨Nat.le_trans r1 hz, rfl, rfl, ?_, ?_, ?_, ?_, ?_, ?_, ?_, ?_, ?_, ?_⟩
  · obtain ⟨a1, a2, a3⟩ := r4
    have h1 : (1 : Nat) ≠ xt y n a ∧ (1 : Nat) ≠ xt y n a + 1 := by
      refine vt_cases ht (P := fun y n a => (1 : Nat) ≠ xt y n a ∧ (1 : Nat) ≠ xt y n a + 1) ?_ ?_ ?_ <;> intro _ _ <;> simp only [xt] <;> omega
    obtain ⟨k1, k2⟩ := key 1 (by decide) h1.1 h1.2
    exact ⟨by rw [k1]; exact a1, by rw [k2]; exact a2, by rw [k2]; exact a3⟩
  · intro n' hn
    obtain ⟨a1, a2, a3, a4, a5, a6, a7⟩ := r5 n' hn
    obtain ⟨k1, k2⟩ := kx (vs0 hn (k := 0) (by decide))
    obtain ⟨q1, q2, q3, q4, q5, q6⟩ := d1 n' hn
    have z1 := key (rC n') (by simp only [rC]; omega) q1 q2
    have z2 := key (rS n') (by simp only [rS]; omega) q3 q4
    have z3 := key (rT n') (by simp only [rT]; omega) q5 q6
    exact ⟨by rw [k1]; exact a1, by rw [k2]; exact a2, by rw [k2]; exact a3, by rw [k2]; exact a4, by rw [z1.1]; exact a5, by rw [z2.1]; exact a6, by rw [z3.1]; exact a7⟩
  · intro n' c hn hc
    obtain ⟨a1, a2, a3, a4, a5, a6, a7⟩ := r6 n' c hn hc
    obtain ⟨k1, k2⟩ := kx (vs1 hn hc (k := 2) (by decide))
    have k3 := kx (vs3 hn hc (k := 0) (by decide))
    obtain ⟨q1, q2, q3, q4, q5, q6⟩ := d1 n' hn
    have z1 := key (rC n') (by simp only [rC]; omega) q1 q2
    have z2 := key (rF n' c) (by simp only [rF]; omega) (d2 n' c hn hc).1 (d2 n' c hn hc).2
    exact ⟨by rw [z1.2]; exact a1, by rw [k1]; exact a2, by rw [k2]; exact a3, by rw [k2]; exact a4, by rw [k2]; exact a5, by rw [z2.1]; exact a6, by rw [k3.1]; exact a7⟩
  · intro n' c f hn hc hf
    obtain ⟨a1, a2⟩ := r7 n' c f hn hc hf
    have k1 := kx (vs2 hn hc hf (k := 0) (by decide))
    have z2 := key (rF n' c) (by simp only [rF]; omega) (d2 n' c hn hc).1 (d2 n' c hn hc).2
    exact ⟨by rw [z2.2]; exact a1, by rw [k1.1]; exact a2⟩
  · intro n' f hn hf
    obtain ⟨a1, a2, a3, a4, a5⟩ := r8 n' f hn hf
    obtain ⟨k1, k2⟩ := kx (vs4 hn hf (k := 0) (by decide))
    have k3 := kx (vs5 hn hf (k := 0) (by decide))
    obtain ⟨q1, q2, q3, q4, q5, q6⟩ := d1 n' hn
    have z2 := key (rS n') (by simp only [rS]; omega) q3 q4
    exact ⟨by rw [z2.2]; exact a1, by rw [k1]; exact a2, by rw [k2]; exact a3, by rw [k2]; exact a4, by rw [k3.1]; exact a5⟩
  · intro n' k hn hk
    obtain ⟨q1, q2, q3, q4, q5, q6⟩ := d1 n' hn
    have z3 := key (rT n') (by simp only [rT]; omega) q5 q6
    rw [z3.2]
    exact r9 n' k hn hk
  · intro g n' a' b k hs
    rw [(kx hs).2]
    exact r10 g n' a' b k hs
  · intro y' n' a' ht'
    by_cases hne : y' = y ∧ n' = n ∧ a' = a
    · obtain ⟨rfl, rfl, rfl⟩ := hne
      have e1 : gT (sW M (hsz hp') (htot hp') y' n' a' r cap) y' n' a' = r := by show (if _ then (r, cap) else _).1 = r; rw [if_pos ⟨rfl, rfl, rfl⟩]
      have e2 : gP (sW M (hsz hp') (htot hp') y' n' a' r cap) y' n' a' = cap := by show (if _ then (r, cap) else _).2 = cap; rw [if_pos ⟨rfl, rfl, rfl⟩]
      rw [e1, e2]
      exact hT
    · have e1 : gT (sW M (hsz hp') (htot hp') y n a r cap) y' n' a' = gT M y' n' a' := by show (if _ then (r, cap) else _).1 = _; rw [if_neg hne]
      have e2 : gP (sW M (hsz hp') (htot hp') y n a r cap) y' n' a' = gP M y' n' a' := by show (if _ then (r, cap) else _).2 = _; rw [if_neg hne]
      rw [e1, e2]
      obtain ⟨k1, k2⟩ := kt ht' hne
      exact (r11 y' n' a' ht').frame hz k1.1 k1.2 k2.1 k2.2
  · intro y1 n1 a1 y2 n2 a2 t1 t2 e
    by_cases c1 : y1 = y ∧ n1 = n ∧ a1 = a
    · obtain ⟨rfl, rfl, rfl⟩ := c1
      by_cases c2 : y2 = y1 ∧ n2 = n1 ∧ a2 = a1
      · exact ⟨c2.1.symm, c2.2.1.symm, c2.2.2.symm⟩
      · rw [aixk t2 c2] at e
        rcases hA with hA | hA
        · rw [hA] at e; exact r12 _ _ _ _ _ _ t1 t2 e
        · have := (r11 _ _ _ t2).2.2.2.2.2.1
          omega
    · rw [aixk t1 c1] at e
      by_cases c2 : y2 = y ∧ n2 = n ∧ a2 = a
      · obtain ⟨rfl, rfl, rfl⟩ := c2
        rcases hA with hA | hA
        · rw [hA] at e; exact r12 _ _ _ _ _ _ t1 t2 e
        · have := (r11 _ _ _ t1).2.2.2.2.2.1
          omega
      · rw [aixk t2 c2] at e
        exact r12 _ _ _ _ _ _ t1 t2 e
  · intro i l f hx
    obtain ⟨x1, x2, x3, x4, x5⟩ := r13 i l f hx
    obtain ⟨k1, k2⟩ := hfr i x2 (by omega) (fun q => x5 y n a ht q.symm)
    refine ⟨x1, Nat.le_trans x2 hz, by rw [k1]; exact x3, fun k hk => by rw [k2]; exact x4 k hk, fun y' n' a' ht' => ?_⟩
    by_cases c2 : y' = y ∧ n' = n ∧ a' = a
    · obtain ⟨rfl, rfl, rfl⟩ := c2
      rcases hA with hA | hA
      · rw [hA]; exact x5 _ _ _ ht'
      · omega
    · rw [aixk ht' c2]
      exact x5 _ _ _ ht'
end
section
/-! ===== Table: its methods ===== -/
abbrev gC (M : MS) (y n a r c : Nat) : Int32 := ((gT M y n a).getD r (fun _ => 0)) c
theorem tw_pos (y : Nat) : 1 ≤ tw y ∧ tw y ≤ 8 := by
  match y with
  | 0 => decide
  | 1 => decide
  | n + 2 => exact ⟨by show 1 ≤ 8; decide, by show 8 ≤ 8; decide⟩
theorem TabAt.apart {hp : AH} {i w : Nat} {r : List Row} {cap : Nat} (h : TabAt hp i w r cap) (hi : i + 1 ≤ 277) : aix hp i ≠ i := by
  rcases h.2.2.2.2.1 with e | e <;> omega
theorem TabAt.okA {hp : AH} {i w : Nat} {r : List Row} {cap : Nat} (h : TabAt hp i w r cap) : okc hp (aix hp i) 6 (w * cap) := by
  obtain ⟨a1, a2, a3, a4, a5, a6, a7, -⟩ := h
  exact ⟨by omega, a6, a7⟩
theorem cell_lt {r c w cap len : Nat} (hr : r < len) (hc : c < w) (hl : len ≤ cap) : r * w + c < w * cap := by
  have h1 : (r + 1) * w ≤ cap * w := Nat.mul_le_mul_right w (by omega)
  rw [Nat.succ_mul] at h1
  rw [Nat.mul_comm w cap]
  omega
theorem cap_lt {y cap : Nat} (h : cap ≤ 140000) : tw y * cap < 2 ^ 31 := by
  have h1 := (tw_pos y).2
  have h2 : tw y * cap ≤ 8 * 140000 := Nat.mul_le_mul h1 h
  omega
/-- the rows' number is written, a row more -/
theorem Rep.addPlain {hp : AH} {M : MS} (h : Rep hp M) {y n a : Nat} (ht : vt y n a) (hl : (gT M y n a).length < gP M y n a) : ∃ q : Row, Rep (hset hp (xt y n a) 2 (.int (nI ((gT M y n a).length + 1)))) (sW M (mz M) (mt M) y n a (gT M y n a ++ [q]) (gP M y n a)) := by
  have hT := h.T ht
  have hne := hT.apart (xt_le ht).2
  have hz := h.2.1
  have htt := h.2.2.1
  obtain ⟨a1, a2, a3, a4, a5, a6, a7, a8, a9, a10, a11⟩ := id hT
  refine ⟨fun c => toI (hv hp (aix hp (xt y n a)) ((gT M y n a).length * tw y + c)), ?_⟩
  have e : aix (hset hp (xt y n a) 2 (.int (nI ((gT M y n a).length + 1)))) (xt y n a) = aix hp (xt y n a) := aix_ne (fun q => by have := q.2; omega)
  have hh := Rep.tab (hp' := hset hp (xt y n a) 2 (.int (nI ((gT M y n a).length + 1)))) h ht (r := gT M y n a ++ [fun c => toI (hv hp (aix hp (xt y n a)) ((gT M y n a).length * tw y + c))]) (cap := gP M y n a) (Nat.le_refl _) (fun i _ h2 _ => ⟨rfl, fun k => hv_ne (fun q => h2 q.1)⟩) ?_ (Or.inl e)
  · rw [← hz, ← htt]; exact hh
  · unfold TabAt
    rw [e]
    refine ⟨a1, ?_, ?_, ?_, a5, a6, a7, by rw [List.length_append]; simp; omega, a9, fun j hj => ?_, fun k q hq c hc => ?_⟩
    · rw [hv_ne (fun q => by have := q.2; omega)]; exact a2
    · rw [hv_set, if_pos ⟨rfl, rfl⟩, List.length_append]; rfl
    · rw [hv_ne (fun q => by have := q.2; omega)]; exact a4
    · rw [hv_ne (fun q => hne q.1)]; exact a10 j hj
    · rw [hv_ne (fun q => hne q.1)]
      by_cases hk : k < (gT M y n a).length
      · rw [List.getElem?_append_left hk] at hq
        exact a11 k q hq c hc
      · rw [List.getElem?_append_right (by omega)] at hq
        have h1 : k - (gT M y n a).length < 1 := (List.getElem?_eq_some_iff.mp hq).1
        have h2 : k = (gT M y n a).length := by omega
        subst h2
        rw [Nat.sub_self] at hq
        cases hq
        obtain ⟨x, hx⟩ := a10 ((gT M y n a).length * tw y + c) (cell_lt (Nat.lt_succ_self _) hc hl)
        simp only [hx, toI]
/-- a new array comes in the place of the old one, with what was copied -/
theorem Rep.fresh {hp : AH} {M : MS} (h : Rep hp M) {y n a c2 : Nat} (ht : vt y n a) (hc2 : (gT M y n a).length ≤ c2) (hc3 : c2 ≤ 140000) :
    Rep (hset (hcpy (hnew hp 6 (tw y * c2) (fun _ => .int 0)) (aix hp (xt y n a)) (hsz hp + 1) 0 0 ((gT M y n a).length * tw y)) (xt y n a) 1 (.ref (hsz hp + 1))) (sW M (mz M + 1) (mt M + tw y * c2) y n a (gT M y n a) c2) := by
  have hT := h.T ht
  have hne := hT.apart (xt_le ht).2
  have hz := h.2.1
  have htt := h.2.2.1
  have hl := xt_le ht
  have h277 := h.1
  obtain ⟨a1, a2, a3, a4, a5, a6, a7, a8, a9, a10, a11⟩ := id hT
  generalize hH : hset (hcpy (hnew hp 6 (tw y * c2) (fun _ => .int 0)) (aix hp (xt y n a)) (hsz hp + 1) 0 0 ((gT M y n a).length * tw y)) (xt y n a) 1 (.ref (hsz hp + 1)) = h4
  have e0 : hsz h4 = hsz hp + 1 := by rw [← hH]; rfl
  have e1 : htot h4 = htot hp + tw y * c2 := by rw [← hH]; rfl
  have ekN : ∀ i, i ≠ hsz hp + 1 → hk h4 i = hk hp i := fun i hi => by
    rw [← hH]
    show (if i = hp.1 + 1 then (6, tw y * c2) else hp.2.2.1 i) = _
    rw [if_neg hi]
  have ekN2 : hk h4 (hsz hp + 1) = (6, tw y * c2) := by
    rw [← hH]
    show (if hp.1 + 1 = hp.1 + 1 then (6, tw y * c2) else hp.2.2.1 (hp.1 + 1)) = _
    rw [if_pos rfl]
  have ev : ∀ i k, i ≠ hsz hp + 1 → ¬ (i = xt y n a ∧ k = 1) → hv h4 i k = hv hp i k := fun i k h1 h2 => by
    rw [← hH]
    show (if i = xt y n a ∧ k = 1 then _ else if i = hsz hp + 1 then _ else if i = hp.1 + 1 then _ else hp.2.2.2 i k) = _
    rw [if_neg h2, if_neg h1, if_neg h1]
  have evx : hv h4 (xt y n a) 1 = .ref (hsz hp + 1) := by
    rw [← hH]
    exact if_pos ⟨rfl, rfl⟩
  have evN : ∀ j, hv h4 (hsz hp + 1) j = if j < (gT M y n a).length * tw y then .int (toI (hv hp (aix hp (xt y n a)) j)) else .int 0 := fun j => by
    rw [← hH]
    show (if hsz hp + 1 = xt y n a ∧ j = 1 then _ else if hsz hp + 1 = hsz hp + 1 then (if 0 ≤ j ∧ j < 0 + (gT M y n a).length * tw y then Value.int (toI (if aix hp (xt y n a) = hp.1 + 1 then _ else hp.2.2.2 (aix hp (xt y n a)) (0 + (j - 0)))) else (if hsz hp + 1 = hp.1 + 1 then Value.int 0 else _)) else _) = _
    rw [if_neg (fun q => by have := q.1; omega), if_pos rfl, if_pos rfl]
    have hn9 : ¬ aix hp (xt y n a) = hp.1 + 1 := by have : aix hp (xt y n a) ≤ hp.1 := a6; omega
    simp only [if_neg hn9]
    by_cases hj : j < (gT M y n a).length * tw y
    · rw [if_pos ⟨Nat.zero_le _, by omega⟩, if_pos hj, Nat.zero_add, Nat.sub_zero]
    · rw [if_neg (fun q => hj (by omega)), if_neg hj]
  have e : aix h4 (xt y n a) = hsz hp + 1 := by unfold aix; rw [evx]
  have hxn : xt y n a ≠ hsz hp + 1 := by omega
  have hh := Rep.tab (hp' := h4) h ht (r := gT M y n a) (cap := c2) (by omega) (fun i h1 h2 _ => ⟨ekN i (by omega), fun k => ev i k (by omega) (fun q => h2 q.1)⟩) ?_ (Or.inr (by omega))
  · rw [e0, e1, hz, htt] at hh; exact hh
  · unfold TabAt
    rw [e]
    refine ⟨by rw [ekN _ hxn]; exact a1, by rw [ev _ _ hxn (fun q => by have := q.2; omega)]; exact a2, by rw [ev _ _ hxn (fun q => by have := q.2; omega)]; exact a3, evx, Or.inr (by omega), by omega, ekN2, hc2, hc3, fun j hj => ?_, fun k q hq c hc => ?_⟩
    · rw [evN]
      by_cases hj2 : j < (gT M y n a).length * tw y
      · rw [if_pos hj2]; exact ⟨_, rfl⟩
      · rw [if_neg hj2]; exact ⟨_, rfl⟩
    · have hk : k < (gT M y n a).length := (List.getElem?_eq_some_iff.mp hq).1
      have h1 : (k + 1) * tw y ≤ (gT M y n a).length * tw y := Nat.mul_le_mul_right _ (by omega)
      rw [Nat.succ_mul] at h1
      rw [evN, if_pos (by omega), a11 k q hq c hc]; rfl
/-- a number in a row is written -/
theorem Rep.cell {hp : AH} {M : MS} (h : Rep hp M) {y n a r c : Nat} (ht : vt y n a) (hr : r < (gT M y n a).length) (hc : c < tw y) (x : Int32) :
    Rep (hset hp (aix hp (xt y n a)) (r * tw y + c) (.int x)) (sW M (mz M) (mt M) y n a ((gT M y n a).set r (upd ((gT M y n a).getD r (fun _ => 0)) c x)) (gP M y n a)) := by
  have hT := h.T ht
  have hne := hT.apart (xt_le ht).2
  have hz := h.2.1
  have htt := h.2.2.1
  obtain ⟨a1, a2, a3, a4, a5, a6, a7, a8, a9, a10, a11⟩ := id hT
  have e : aix (hset hp (aix hp (xt y n a)) (r * tw y + c) (.int x)) (xt y n a) = aix hp (xt y n a) := aix_ne (fun q => hne q.1.symm)
  have hh := Rep.tab (hp' := hset hp (aix hp (xt y n a)) (r * tw y + c) (.int x)) h ht (r := (gT M y n a).set r (upd ((gT M y n a).getD r (fun _ => 0)) c x)) (cap := gP M y n a) (Nat.le_refl _) (fun i _ _ h3 => ⟨rfl, fun k => hv_ne (fun q => h3 q.1)⟩) ?_ (Or.inl e)
  · rw [← hz, ← htt]; exact hh
  · unfold TabAt
    rw [e]
    refine ⟨a1, ?_, ?_, ?_, a5, a6, a7, by rw [List.length_set]; exact a8, a9, fun j hj => ?_, fun k q hq c' hc' => ?_⟩
    · rw [hv_ne (fun q => hne q.1.symm)]; exact a2
    · rw [hv_ne (fun q => hne q.1.symm), List.length_set]; exact a3
    · rw [hv_ne (fun q => hne q.1.symm)]; exact a4
    · rw [hv_set]
      by_cases hq : aix hp (xt y n a) = aix hp (xt y n a) ∧ j = r * tw y + c
      · rw [if_pos hq]; exact ⟨_, rfl⟩
      · rw [if_neg hq]; exact a10 j hj
    · rw [hv_set]
      by_cases hk : k = r
      · subst hk
        rw [List.getElem?_set_self hr] at hq
        cases hq
        by_cases hcc : c' = c
        · subst hcc
          rw [if_pos ⟨rfl, rfl⟩]; simp [upd]
        · rw [if_neg (fun q => hcc (by omega))]
          simp only [upd, if_neg hcc]
          refine a11 k _ ?_ c' hc'
          rw [List.getD_eq_getElem?_getD, List.getElem?_eq_getElem hr]; rfl
      · rw [List.getElem?_set_ne (fun q => hk q.symm)] at hq
        rw [if_neg]
        · exact a11 k q hq c' hc'
        · rintro ⟨-, q2⟩
          rcases Nat.lt_or_gt_of_ne hk with h1 | h1
          · have h2 : (k + 1) * tw y ≤ r * tw y := Nat.mul_le_mul_right _ h1
            rw [Nat.succ_mul] at h2
            omega
          · have h2 : (r + 1) * tw y ≤ k * tw y := Nat.mul_le_mul_right _ h1
            rw [Nat.succ_mul] at h2
            omega
/-- the first rows go -/
theorem Rep.drop {hp : AH} {M : MS} (h : Rep hp M) {y n a m : Nat} (ht : vt y n a) (hm : m ≤ (gT M y n a).length) :
    Rep (hset (hcpy hp (aix hp (xt y n a)) (aix hp (xt y n a)) (m * tw y) 0 (((gT M y n a).length - m) * tw y)) (xt y n a) 2 (.int (nI ((gT M y n a).length - m)))) (sW M (mz M) (mt M) y n a ((gT M y n a).drop m) (gP M y n a)) := by
  have hT := h.T ht
  have hne := hT.apart (xt_le ht).2
  have hz := h.2.1
  have htt := h.2.2.1
  obtain ⟨a1, a2, a3, a4, a5, a6, a7, a8, a9, a10, a11⟩ := id hT
  generalize hH : hset (hcpy hp (aix hp (xt y n a)) (aix hp (xt y n a)) (m * tw y) 0 (((gT M y n a).length - m) * tw y)) (xt y n a) 2 (.int (nI ((gT M y n a).length - m))) = h4
  have e0 : hsz h4 = hsz hp := by rw [← hH]; rfl
  have e1 : htot h4 = htot hp := by rw [← hH]; rfl
  have ek : ∀ i, hk h4 i = hk hp i := fun i => by rw [← hH]; rfl
  have ev : ∀ i k, i ≠ aix hp (xt y n a) → ¬ (i = xt y n a ∧ k = 2) → hv h4 i k = hv hp i k := fun i k h1 h2 => by
    rw [← hH]
    show (if i = xt y n a ∧ k = 2 then _ else if i = aix hp (xt y n a) then _ else hp.2.2.2 i k) = _
    rw [if_neg h2, if_neg h1]
  have evx : hv h4 (xt y n a) 2 = .int (nI ((gT M y n a).length - m)) := by
    rw [← hH]
    exact if_pos ⟨rfl, rfl⟩
  have evA : ∀ j, hv h4 (aix hp (xt y n a)) j = if j < ((gT M y n a).length - m) * tw y then .int (toI (hv hp (aix hp (xt y n a)) (m * tw y + j))) else hv hp (aix hp (xt y n a)) j := fun j => by
    rw [← hH]
    show (if aix hp (xt y n a) = xt y n a ∧ j = 2 then _ else if aix hp (xt y n a) = aix hp (xt y n a) then (if 0 ≤ j ∧ j < 0 + ((gT M y n a).length - m) * tw y then Value.int (toI (hp.2.2.2 (aix hp (xt y n a)) (m * tw y + (j - 0)))) else hp.2.2.2 (aix hp (xt y n a)) j) else _) = _
    rw [if_neg (fun q => hne q.1), if_pos rfl]
    by_cases hj : j < ((gT M y n a).length - m) * tw y
    · rw [if_pos ⟨Nat.zero_le _, by omega⟩, if_pos hj, Nat.sub_zero]
    · rw [if_neg (fun q => hj (by omega)), if_neg hj]
  have e : aix h4 (xt y n a) = aix hp (xt y n a) := by
    unfold aix
    rw [ev _ _ (fun q => hne q.symm) (fun q => by have := q.2; omega)]
  have hh := Rep.tab (hp' := h4) h ht (r := (gT M y n a).drop m) (cap := gP M y n a) (by omega) (fun i _ h2 h3 => ⟨ek i, fun k => ev i k h3 (fun q => h2 q.1)⟩) ?_ (Or.inl e)
  · rw [e0, e1, hz, htt] at hh; exact hh
  · unfold TabAt
    rw [e]
    refine ⟨by rw [ek]; exact a1, by rw [ev _ _ (fun q => hne q.symm) (fun q => by have := q.2; omega)]; exact a2, by rw [evx, List.length_drop], by rw [ev _ _ (fun q => hne q.symm) (fun q => by have := q.2; omega)]; exact a4, a5, by rw [e0]; exact a6, by rw [ek]; exact a7, by rw [List.length_drop]; omega, a9, fun j hj => ?_, fun k q hq c hc => ?_⟩
    · rw [evA]
      by_cases hj2 : j < ((gT M y n a).length - m) * tw y
      · rw [if_pos hj2]; exact ⟨_, rfl⟩
      · rw [if_neg hj2]; exact a10 j hj
    · rw [List.getElem?_drop] at hq
      have hk : m + k < (gT M y n a).length := (List.getElem?_eq_some_iff.mp hq).1
      have h1 : (k + 1) * tw y ≤ ((gT M y n a).length - m) * tw y := Nat.mul_le_mul_right _ (by omega)
      rw [Nat.succ_mul] at h1
      have h3 : m * tw y + (k * tw y + c) = (m + k) * tw y + c := by rw [Nat.add_mul]; omega
      rw [evA, if_pos (by omega), h3, a11 (m + k) q hq c hc]; rfl
/-- a table's rows come from another one -/
theorem Rep.tcopy {hp : AH} {M : MS} (h : Rep hp M) {y n a n' a' : Nat} (ht : vt y n a) (ht' : vt y n' a') (hne0 : ¬ (n' = n ∧ a' = a)) (hl : (gT M y n' a').length ≤ gP M y n a) :
    Rep (hset (hcpy hp (aix hp (xt y n' a')) (aix hp (xt y n a)) 0 0 ((gT M y n' a').length * tw y)) (xt y n a) 2 (.int (nI (gT M y n' a').length))) (sW M (mz M) (mt M) y n a (gT M y n' a') (gP M y n a)) := by
  have hT := h.T ht
  have hT' := h.T ht'
  have hne := hT.apart (xt_le ht).2
  have hz := h.2.1
  have htt := h.2.2.1
  obtain ⟨a1, a2, a3, a4, a5, a6, a7, a8, a9, a10, a11⟩ := id hT
  obtain ⟨b1, b2, b3, b4, b5, b6, b7, b8, b9, b10, b11⟩ := id hT'
  have hAA : aix hp (xt y n' a') ≠ aix hp (xt y n a) := fun q => by
    obtain ⟨-, r1, r2⟩ := h.2.2.2.2.2.2.2.2.2.2.2.1 _ _ _ _ _ _ ht' ht q
    exact hne0 ⟨r1, r2⟩
  generalize hH : hset (hcpy hp (aix hp (xt y n' a')) (aix hp (xt y n a)) 0 0 ((gT M y n' a').length * tw y)) (xt y n a) 2 (.int (nI (gT M y n' a').length)) = h4
  have e0 : hsz h4 = hsz hp := by rw [← hH]; rfl
  have e1 : htot h4 = htot hp := by rw [← hH]; rfl
  have ek : ∀ i, hk h4 i = hk hp i := fun i => by rw [← hH]; rfl
  have ev : ∀ i k, i ≠ aix hp (xt y n a) → ¬ (i = xt y n a ∧ k = 2) → hv h4 i k = hv hp i k := fun i k h1 h2 => by
    rw [← hH]
    show (if i = xt y n a ∧ k = 2 then _ else if i = aix hp (xt y n a) then _ else hp.2.2.2 i k) = _
    rw [if_neg h2, if_neg h1]
  have evx : hv h4 (xt y n a) 2 = .int (nI (gT M y n' a').length) := by
    rw [← hH]
    exact if_pos ⟨rfl, rfl⟩
  have evA : ∀ j, hv h4 (aix hp (xt y n a)) j = if j < (gT M y n' a').length * tw y then .int (toI (hv hp (aix hp (xt y n' a')) j)) else hv hp (aix hp (xt y n a)) j := fun j => by
    rw [← hH]
    show (if aix hp (xt y n a) = xt y n a ∧ j = 2 then _ else if aix hp (xt y n a) = aix hp (xt y n a) then (if 0 ≤ j ∧ j < 0 + (gT M y n' a').length * tw y then Value.int (toI (hp.2.2.2 (aix hp (xt y n' a')) (0 + (j - 0)))) else hp.2.2.2 (aix hp (xt y n a)) j) else _) = _
    rw [if_neg (fun q => hne q.1), if_pos rfl]
    by_cases hj : j < (gT M y n' a').length * tw y
    · rw [if_pos ⟨Nat.zero_le _, by omega⟩, if_pos hj, Nat.sub_zero, Nat.zero_add]
    · rw [if_neg (fun q => hj (by omega)), if_neg hj]
  have e : aix h4 (xt y n a) = aix hp (xt y n a) := by
    unfold aix
    rw [ev _ _ (fun q => hne q.symm) (fun q => by have := q.2; omega)]
  have hh := Rep.tab (hp' := h4) h ht (r := gT M y n' a') (cap := gP M y n a) (by omega) (fun i _ h2 h3 => ⟨ek i, fun k => ev i k h3 (fun q => h2 q.1)⟩) ?_ (Or.inl e)
  · rw [e0, e1, hz, htt] at hh; exact hh
  · unfold TabAt
    rw [e]
    refine ⟨by rw [ek]; exact a1, by rw [ev _ _ (fun q => hne q.symm) (fun q => by have := q.2; omega)]; exact a2, evx, by rw [ev _ _ (fun q => hne q.symm) (fun q => by have := q.2; omega)]; exact a4, a5, by rw [e0]; exact a6, by rw [ek]; exact a7, hl, a9, fun j hj => ?_, fun k q hq c hc => ?_⟩
    · rw [evA]
      by_cases hj2 : j < (gT M y n' a').length * tw y
      · rw [if_pos hj2]; exact ⟨_, rfl⟩
      · rw [if_neg hj2]; exact a10 j hj
    · have hk : k < (gT M y n' a').length := (List.getElem?_eq_some_iff.mp hq).1
      have h1 : (k + 1) * tw y ≤ (gT M y n' a').length * tw y := Nat.mul_le_mul_right _ (by omega)
      rw [Nat.succ_mul] at h1
      rw [evA, if_pos (by omega), b11 k q hq c hc]; rfl
/-- a new array of zeros in the place of the old one -/
theorem Rep.zeros {hp : AH} {M : MS} (h : Rep hp M) {y n a c2 : Nat} (ht : vt y n a) (hc2 : (gT M y n a).length ≤ c2) (hc3 : c2 ≤ 140000) :
    Rep (hset (hnew hp 6 (tw y * c2) (fun _ => .int 0)) (xt y n a) 1 (.ref (hsz hp + 1))) (sW M (mz M + 1) (mt M + tw y * c2) y n a (List.replicate (gT M y n a).length (fun _ => 0)) c2) := by
  have hT := h.T ht
  have hne := hT.apart (xt_le ht).2
  have hz := h.2.1
  have htt := h.2.2.1
  have hl := xt_le ht
  have h277 := h.1
  obtain ⟨a1, a2, a3, a4, a5, a6, a7, a8, a9, a10, a11⟩ := id hT
  generalize hH : hset (hnew hp 6 (tw y * c2) (fun _ => .int 0)) (xt y n a) 1 (.ref (hsz hp + 1)) = h4
  have e0 : hsz h4 = hsz hp + 1 := by rw [← hH]; rfl
  have e1 : htot h4 = htot hp + tw y * c2 := by rw [← hH]; rfl
  have ekN : ∀ i, i ≠ hsz hp + 1 → hk h4 i = hk hp i := fun i hi => by
    rw [← hH]
    show (if i = hp.1 + 1 then (6, tw y * c2) else hp.2.2.1 i) = _
    rw [if_neg hi]
  have ekN2 : hk h4 (hsz hp + 1) = (6, tw y * c2) := by
    rw [← hH]
    show (if hp.1 + 1 = hp.1 + 1 then (6, tw y * c2) else hp.2.2.1 (hp.1 + 1)) = _
    rw [if_pos rfl]
  have ev : ∀ i k, i ≠ hsz hp + 1 → ¬ (i = xt y n a ∧ k = 1) → hv h4 i k = hv hp i k := fun i k h1 h2 => by
    rw [← hH]
    show (if i = xt y n a ∧ k = 1 then _ else if i = hp.1 + 1 then _ else hp.2.2.2 i k) = _
    rw [if_neg h2, if_neg h1]
  have evx : hv h4 (xt y n a) 1 = .ref (hsz hp + 1) := by
    rw [← hH]
    exact if_pos ⟨rfl, rfl⟩
  have evN : ∀ j, hv h4 (hsz hp + 1) j = .int 0 := fun j => by
    rw [← hH]
    show (if hsz hp + 1 = xt y n a ∧ j = 1 then _ else if hsz hp + 1 = hp.1 + 1 then Value.int 0 else _) = _
    rw [if_neg (fun q => by have := q.1; omega), if_pos rfl]
  have e : aix h4 (xt y n a) = hsz hp + 1 := by unfold aix; rw [evx]
  have hxn : xt y n a ≠ hsz hp + 1 := by omega
  have hh := Rep.tab (hp' := h4) h ht (r := List.replicate (gT M y n a).length (fun _ => 0)) (cap := c2) (by omega) (fun i h1 h2 _ => ⟨ekN i (by omega), fun k => ev i k (by omega) (fun q => h2 q.1)⟩) ?_ (Or.inr (by omega))
  · rw [e0, e1, hz, htt] at hh; exact hh
  · unfold TabAt
    rw [e]
    refine ⟨by rw [ekN _ hxn]; exact a1, by rw [ev _ _ hxn (fun q => by have := q.2; omega)]; exact a2, by rw [ev _ _ hxn (fun q => by have := q.2; omega), List.length_replicate]; exact a3, evx, Or.inr (by omega), by omega, ekN2, by rw [List.length_replicate]; exact hc2, hc3, fun j hj => ⟨0, evN j⟩, fun k q hq c hc => ?_⟩
    rw [evN]
    have h9 := List.getElem?_eq_some_iff.mp hq
    obtain ⟨h9, h10⟩ := h9
    rw [List.getElem_replicate] at h10
    rw [← h10]
end
section
/-! ===== Table: its walks ===== -/
theorem gT_sW (M : MS) (z t y n a : Nat) (r : List Row) (cap : Nat) : gT (sW M z t y n a r cap) y n a = r := by show (if _ then (r, cap) else _).1 = r; rw [if_pos ⟨rfl, rfl, rfl⟩]
theorem gP_sW (M : MS) (z t y n a : Nat) (r : List Row) (cap : Nat) : gP (sW M z t y n a r cap) y n a = cap := by show (if _ then (r, cap) else _).2 = cap; rw [if_pos ⟨rfl, rfl, rfl⟩]
theorem gT_sWn {M : MS} {z t y n a : Nat} {r : List Row} {cap y' n' a' : Nat} (h : ¬ (y' = y ∧ n' = n ∧ a' = a)) : gT (sW M z t y n a r cap) y' n' a' = gT M y' n' a' := by show (if _ then (r, cap) else _).1 = _; rw [if_neg h]
theorem gP_sWn {M : MS} {z t y n a : Nat} {r : List Row} {cap y' n' a' : Nat} (h : ¬ (y' = y ∧ n' = n ∧ a' = a)) : gP (sW M z t y n a r cap) y' n' a' = gP M y' n' a' := by show (if _ then (r, cap) else _).2 = _; rw [if_neg h]
theorem sW_sW (M : MS) (z t z2 t2 y n a : Nat) (r r2 : List Row) (cap cap2 : Nat) : sW (sW M z t y n a r cap) z2 t2 y n a r2 cap2 = sW M z2 t2 y n a r2 cap2 := by
  unfold sW
  congr 4
  funext y' n' a'
  by_cases h : y' = y ∧ n' = n ∧ a' = a
  · rw [if_pos h, if_pos h]
  · rw [if_neg h, if_neg h]; exact if_neg h
theorem hv_new {hp : AH} {t n : Nat} {z : Nat → Value} {i k : Nat} (h : i ≤ hsz hp) : hv (hnew hp t n z) i k = hv hp i k := if_neg (by have : i ≤ hp.1 := h; omega)
theorem okc_new {hp : AH} {t n : Nat} {z : Nat → Value} {i ci m : Nat} (h : okc hp i ci m) : okc (hnew hp t n z) i ci m := by
  obtain ⟨h1, h2, h3⟩ := h
  refine ⟨h1, Nat.le_succ_of_le h2, ?_⟩
  show (if i = hp.1 + 1 then (t, n) else hp.2.2.1 i) = _
  rw [if_neg (by have : i ≤ hp.1 := h2; omega)]
  exact h3
theorem okc_new_self (hp : AH) (t n : Nat) (z : Nat → Value) : okc (hnew hp t n z) (hsz hp + 1) t n := ⟨Nat.succ_pos _, Nat.le_refl _, if_pos rfl⟩
theorem TabAt.read {hp : AH} {M : MS} {y n a : Nat} (h : TabAt hp (xt y n a) (tw y) (gT M y n a) (gP M y n a)) {r c : Nat} (hr : r < (gT M y n a).length) (hc : c < tw y) : hv hp (aix hp (xt y n a)) (r * tw y + c) = .int (gC M y n a r c) := by
  obtain ⟨a1, a2, a3, a4, a5, a6, a7, a8, a9, a10, a11⟩ := h
  refine (a11 r _ (List.getElem?_eq_getElem hr) c hc).trans ?_
  show _ = Value.int (((gT M y n a).getD r (fun _ => 0)) c)
  rw [List.getD_eq_getElem?_getD, List.getElem?_eq_getElem hr]; rfl
section TABLE
variable {L : Nat} {xs : Nat → Int32} {d : Nat} {hp : AH} {M : MS} {y n a : Nat}
/-- a place in the table -/
theorem s_isCell (hR : Rep hp M) (ht : vt y n a) {r c : Nat} (hr : r < (gT M y n a).length) (hc : c < tw y) : WM L xs d mX4_isCell [.ref (xt y n a), .int (nI r), .int (nI c)] hp (fun v hp' => hp' = hp ∧ v = some (.int 1)) := by
  have hl := (hR.T ht).2.2.2.2.2.2.2.1
  have hl2 := (hR.T ht).2.2.2.2.2.2.2.2.1
  refine WM.of [some (.ref _), some (.int (nI r)), some (.int (nI c))] (by decide) rfl (Nat.le_of_ble_eq_true rfl) ?_
  refine wp_iload_n (i := 1) dX4_isCell_0 rfl rfl ?_
  refine wp_if_lt (tgt := 28) dX4_isCell_1 (by decide) (fun c1 => ?_) (fun c1 => ?_)
  · skip
    exact absurd c1 (nI_pos (by omega))
  · skip
    refine wp_iload_n (i := 1) dX4_isCell_4 rfl rfl ?_
    refine wp_aload_n (i := 0) dX4_isCell_5 rfl rfl ?_
    refine wr_rows dX4_isCell_6 hR f_X4_25 ht ?_
    refine wp_icmp_ge (tgt := 28) dX4_isCell_9 (by decide) (fun c9 => ?_) (fun c9 => ?_)
    · skip
      exact absurd (nI_lt hr (by omega)) c9
    · skip
      refine wp_iload_n (i := 2) dX4_isCell_12 rfl rfl ?_
      refine wp_if_lt (tgt := 28) dX4_isCell_13 (by decide) (fun c13 => ?_) (fun c13 => ?_)
      · skip
        exact absurd c13 (nI_pos (by have := (tw_pos y).2; omega))
      · skip
        refine wp_iload_n (i := 2) dX4_isCell_16 rfl rfl ?_
        refine wp_aload_n (i := 0) dX4_isCell_17 rfl rfl ?_
        refine wr_width dX4_isCell_18 hR f_X4_15 ht ?_
        refine wp_icmp_ge (tgt := 28) dX4_isCell_21 (by decide) (fun c21 => ?_) (fun c21 => ?_)
        · skip
          exact absurd (nI_lt hc (by have := (tw_pos y).2; omega)) c21
        · skip
          refine wp_iconst (v := 1) dX4_isCell_24 rfl ?_
          refine wp_goto (tgt := 29) dX4_isCell_25 (by decide) ?_
          refine wp_ret (v := some (.int _)) dX4_isCell_29 rfl ?_
          exact ⟨Or.inr rfl, rfl, rfl⟩
/-- a number of a row -/
theorem s_get (hR : Rep hp M) (ht : vt y n a) {r c : Nat} (hr : r < (gT M y n a).length) (hc : c < tw y) : WM L xs (d + 1) mX4_get [.ref (xt y n a), .int (nI r), .int (nI c)] hp (fun v hp' => hp' = hp ∧ v = some (.int (gC M y n a r c))) := by
  have hT := hR.T ht
  refine WM.of [some (.ref _), some (.int (nI r)), some (.int (nI c))] (by decide) rfl (Nat.le_of_ble_eq_true rfl) ?_
  refine wp_aload_n (i := 0) dX4_get_0 rfl rfl ?_
  refine wp_iload_n (i := 1) dX4_get_1 rfl rfl ?_
  refine wp_iload_n (i := 2) dX4_get_2 rfl rfl ?_
  refine wp_callV (N := mX4_isCell) dX4_get_3 l_X4_35 v_X4_isCell rfl (hR.oT ht) rfl (by decide) (s_isCell hR ht hr hc) (fun v hp1 hq => ?_)
  obtain ⟨rfl, rfl⟩ := hq
  refine wp_if_eq (tgt := 25) dX4_get_6 (by decide) (fun c6 => ?_) (fun c6 => ?_)
  · skip
    exact absurd c6 (by decide)
  · skip
    refine wp_aload_n (i := 0) dX4_get_9 rfl rfl ?_
    refine wr_cells dX4_get_10 hR f_X4_21 ht ?_
    refine wp_iload_n (i := 1) dX4_get_13 rfl rfl ?_
    refine wp_aload_n (i := 0) dX4_get_14 rfl rfl ?_
    refine wr_width dX4_get_15 hR f_X4_15 ht ?_
    refine wp_imul dX4_get_18 ?_
    refine wp_iload_n (i := 2) dX4_get_19 rfl rfl ?_
    refine wp_iadd dX4_get_20 ?_
    refine wp_iald dX4_get_21 hT.okA (k := r * tw y + c) (by rw [pk_mul, nI_add]) (cell_lt hr hc hT.2.2.2.2.2.2.2.1) (cap_lt hT.2.2.2.2.2.2.2.2.1) ?_
    rw [hT.read hr hc]
    refine wp_goto (tgt := 26) dX4_get_22 (by decide) ?_
    refine wp_ret (v := some (.int _)) dX4_get_26 rfl ?_
    exact ⟨trivial, rfl, rfl⟩
/-- a number of a row is put -/
theorem s_put (hR : Rep hp M) (ht : vt y n a) {r c : Nat} (hr : r < (gT M y n a).length) (hc : c < tw y) (x : Int32) : WM L xs (d + 1) mX4_put [.ref (xt y n a), .int (nI r), .int (nI c), .int x] hp (fun v hp' => v = none ∧ Rep hp' (sW M (mz M) (mt M) y n a ((gT M y n a).set r (upd ((gT M y n a).getD r (fun _ => 0)) c x)) (gP M y n a))) := by
  have hT := hR.T ht
  refine WM.of [some (.ref _), some (.int (nI r)), some (.int (nI c)), some (.int x)] (by decide) rfl (Nat.le_of_ble_eq_true rfl) ?_
  refine wp_aload_n (i := 0) dX4_put_0 rfl rfl ?_
  refine wp_iload_n (i := 1) dX4_put_1 rfl rfl ?_
  refine wp_iload_n (i := 2) dX4_put_2 rfl rfl ?_
  refine wp_callV (N := mX4_isCell) dX4_put_3 l_X4_35 v_X4_isCell rfl (hR.oT ht) rfl (by decide) (s_isCell hR ht hr hc) (fun v hp1 hq => ?_)
  obtain ⟨rfl, rfl⟩ := hq
  refine wp_if_eq (tgt := 23) dX4_put_6 (by decide) (fun c6 => ?_) (fun c6 => ?_)
  · skip
    exact absurd c6 (by decide)
  · skip
    refine wp_aload_n (i := 0) dX4_put_9 rfl rfl ?_
    refine wr_cells dX4_put_10 hR f_X4_21 ht ?_
    refine wp_iload_n (i := 1) dX4_put_13 rfl rfl ?_
    refine wp_aload_n (i := 0) dX4_put_14 rfl rfl ?_
    refine wr_width dX4_put_15 hR f_X4_15 ht ?_
    refine wp_imul dX4_put_18 ?_
    refine wp_iload_n (i := 2) dX4_put_19 rfl rfl ?_
    refine wp_iadd dX4_put_20 ?_
    refine wp_iload_n (i := 3) dX4_put_21 rfl rfl ?_
    refine wp_iast dX4_put_22 hT.okA (k := r * tw y + c) (by rw [pk_mul, nI_add]) (cell_lt hr hc hT.2.2.2.2.2.2.2.1) (cap_lt hT.2.2.2.2.2.2.2.2.1) ?_
    refine wp_ret (v := none) dX4_put_23 rfl ?_
    exact ⟨trivial, rfl, hR.cell ht hr hc x⟩
theorem w_addRow_62 (hR : Rep hp M) (ht : vt y n a) (hl : (gT M y n a).length < gP M y n a) (l1 l2 : Option Value) : WP L xs d mX4_addRow 62 [some (.ref (xt y n a)), l1, l2] [] hp (fun v hp' => retOk mX4_addRow.2.2.2 v ∧ v = some (.int (nI (gT M y n a).length)) ∧ ∃ q : Row, Rep hp' (sW M (mz M) (mt M) y n a (gT M y n a ++ [q]) (gP M y n a))) := by
  refine wp_aload_n (i := 0) dX4_addRow_62 rfl rfl ?_
  refine wp_dup dX4_addRow_63 rfl ?_
  refine wr_rows dX4_addRow_64 hR f_X4_25 ht ?_
  refine wp_iconst (v := 1) dX4_addRow_67 rfl ?_
  refine wp_iadd dX4_addRow_68 ?_
  rw [nI_1]
  obtain ⟨q, hR1⟩ := hR.addPlain ht hl
  refine wp_put dX4_addRow_69 (hR.oT ht) (p_X4_25 rfl) (okI rfl) (by decide) ?_
  refine wp_aload_n (i := 0) dX4_addRow_72 rfl rfl ?_
  refine wr_rows dX4_addRow_73 hR1 f_X4_25 ht ?_
  refine wp_iconst (v := 1) dX4_addRow_76 rfl ?_
  refine wp_isub dX4_addRow_77 ?_
  refine wp_ret (v := some (.int _)) dX4_addRow_78 rfl ?_
  refine ⟨trivial, ?_, q, hR1⟩
  rw [gT_sW, List.length_append]
  exact congrArg (fun z => some (Value.int z)) (nI_pred _)
/-- how much room a table has with one more row, and what that costs -/
def aP (M : MS) (y n a : Nat) : Nat := if (gT M y n a).length < gP M y n a then gP M y n a else 2 * ((gT M y n a).length + 1)
def aZ (M : MS) (y n a : Nat) : Nat := if (gT M y n a).length < gP M y n a then mz M else mz M + 1
def aT (M : MS) (y n a : Nat) : Nat := if (gT M y n a).length < gP M y n a then mt M else mt M + tw y * (2 * ((gT M y n a).length + 1))
/-- a row more, its numbers still to be put -/
theorem s_addRow (hR : Rep hp M) (ht : vt y n a) (hl : (gT M y n a).length < 65536) : WM L xs (d + 1) mX4_addRow [.ref (xt y n a)] hp (fun v hp' => v = some (.int (nI (gT M y n a).length)) ∧ ∃ q : Row, Rep hp' (sW M (aZ M y n a) (aT M y n a) y n a (gT M y n a ++ [q]) (aP M y n a))) := by
  have hT := hR.T ht
  have hle := hT.2.2.2.2.2.2.2.1
  have hcap := hT.2.2.2.2.2.2.2.2.1
  have hw := tw_pos y
  have hlw : (gT M y n a).length * tw y ≤ 65536 * 8 := Nat.mul_le_mul (by omega) hw.2
  have hcw := cap_lt (y := y) hcap
  refine WM.of [some (.ref _), none, none] (by decide) rfl (Nat.le_of_ble_eq_true rfl) ?_
  refine wp_aload_n (i := 0) dX4_addRow_0 rfl rfl ?_
  refine wr_rows dX4_addRow_1 hR f_X4_25 ht ?_
  refine wp_ldc dX4_addRow_4 k_X4_28 ?_
  refine wp_icmp_lt (tgt := 11) dX4_addRow_6 (by decide) (fun c6 => ?_) (fun c6 => ?_)
  · skip
    refine wp_aload_n (i := 0) dX4_addRow_11 rfl rfl ?_
    refine wr_rows dX4_addRow_12 hR f_X4_25 ht ?_
    refine wp_aload_n (i := 0) dX4_addRow_15 rfl rfl ?_
    refine wr_width dX4_addRow_16 hR f_X4_15 ht ?_
    refine wp_imul dX4_addRow_19 ?_
    refine wp_istore_n (i := 1) dX4_addRow_20 rfl (Nat.le_of_ble_eq_true rfl) ?_
    refine wp_iload_n (i := 1) dX4_addRow_21 rfl rfl ?_
    refine wp_aload_n (i := 0) dX4_addRow_22 rfl rfl ?_
    refine wr_width dX4_addRow_23 hR f_X4_15 ht ?_
    refine wp_iadd dX4_addRow_26 ?_
    refine wp_aload_n (i := 0) dX4_addRow_27 rfl rfl ?_
    refine wr_cells dX4_addRow_28 hR f_X4_21 ht ?_
    refine wp_alenI dX4_addRow_31 hT.okA ?_
    refine wp_icmp_le (tgt := 62) dX4_addRow_32 (by decide) (fun c32 => ?_) (fun c32 => ?_)
    · skip
      have e9 : nI (gT M y n a).length * nI (tw y) + nI (tw y) = nI ((gT M y n a).length * tw y + tw y) := by rw [pk_mul, nI_add]
      rw [e9, nI_ltI hcw (by omega)] at c32
      have e8 : (gT M y n a).length * tw y + tw y = tw y * ((gT M y n a).length + 1) := by rw [Nat.mul_succ, Nat.mul_comm (tw y)]
      rw [e8] at c32
      have hlt : (gT M y n a).length < gP M y n a := by
        rcases Nat.lt_or_ge (gT M y n a).length (gP M y n a) with q | q
        · exact q
        · have h1 : tw y * gP M y n a < tw y * ((gT M y n a).length + 1) := Nat.mul_lt_mul_of_pos_left (by omega) hw.1
          exact absurd h1 c32
      refine WP.mono (w_addRow_62 hR ht hlt _ _) (fun v hp' hq => ?_)
      obtain ⟨q1, q2, q, q3⟩ := hq
      refine ⟨q1, q2, q, ?_⟩
      rw [aZ, aT, aP, if_pos hlt, if_pos hlt, if_pos hlt]
      exact q3
    · skip
      have e9 : nI (gT M y n a).length * nI (tw y) + nI (tw y) = nI ((gT M y n a).length * tw y + tw y) := by rw [pk_mul, nI_add]
      rw [e9, nI_ltI hcw (by omega)] at c32
      have e8 : (gT M y n a).length * tw y + tw y = tw y * ((gT M y n a).length + 1) := by rw [Nat.mul_succ, Nat.mul_comm (tw y)]
      rw [e8] at c32
      have hge : ¬ (gT M y n a).length < gP M y n a := fun q => by
        have h1 : tw y * ((gT M y n a).length + 1) ≤ tw y * gP M y n a := Nat.mul_le_mul_left _ q
        omega
      have hbig : tw y * (2 * ((gT M y n a).length + 1)) ≤ 8 * 131074 := Nat.mul_le_mul hw.2 (by omega)
      have hbig2 : (gT M y n a).length * tw y ≤ tw y * (2 * ((gT M y n a).length + 1)) := by rw [Nat.mul_comm]; exact Nat.mul_le_mul_left _ (by omega)
      have hle2 : (gT M y n a).length * tw y ≤ tw y * gP M y n a := by rw [Nat.mul_comm]; exact Nat.mul_le_mul_left _ hle
      refine wp_iconst (v := 2) dX4_addRow_35 rfl ?_
      refine wp_iload_n (i := 1) dX4_addRow_36 rfl rfl ?_
      refine wp_aload_n (i := 0) dX4_addRow_37 rfl rfl ?_
      refine wr_width dX4_addRow_38 hR f_X4_15 ht ?_
      refine wp_iadd dX4_addRow_41 ?_
      refine wp_imul dX4_addRow_42 ?_
      refine wp_newI (n := tw y * (2 * ((gT M y n a).length + 1))) dX4_addRow_43 arrI_in (by rw [e9, show (2 : Int32) = nI 2 from rfl, pk_mul, e8, Nat.mul_left_comm]) (by omega) ?_
      refine wp_astore_n (i := 2) dX4_addRow_45 rfl (Nat.le_of_ble_eq_true rfl) ?_
      refine wp_aload_n (i := 0) dX4_addRow_46 rfl rfl ?_
      refine wp_get dX4_addRow_47 (okc_new (hR.oT ht)) f_X4_21 (by decide) ?_
      rw [hv_new (hR.oT ht).2.1, hT.2.2.2.1]
      refine wp_iconst (v := 0) dX4_addRow_50 rfl ?_
      refine wp_aload_n (i := 2) dX4_addRow_51 rfl rfl ?_
      refine wp_iconst (v := 0) dX4_addRow_52 rfl ?_
      refine wp_iload_n (i := 1) dX4_addRow_53 rfl rfl ?_
      refine wp_copy (sp := 0) (dp := 0) (n := (gT M y n a).length * tw y) dX4_addRow_54 o_X4_29 (okc_new hT.okA) (okc_new_self _ _ _ _) nI_0.symm nI_0.symm (pk_mul _ _) (by omega) (by omega) (by omega) (by omega) (by decide) ?_
      refine wp_aload_n (i := 0) dX4_addRow_57 rfl rfl ?_
      refine wp_aload_n (i := 2) dX4_addRow_58 rfl rfl ?_
      refine wp_put dX4_addRow_59 (okc_new (z := fun _ => .int 0) (n := tw y * (2 * ((gT M y n a).length + 1))) (t := 6) (hR.oT ht)) (p_X4_21 rfl) (fun _ _ => ⟨rfl, rfl⟩) (by decide) ?_
      have hR2 := hR.fresh ht (c2 := 2 * ((gT M y n a).length + 1)) (by omega) (by omega)
      refine WP.mono (w_addRow_62 hR2 ht (by rw [gT_sW, gP_sW]; omega) _ _) (fun v hp' hq => ?_)
      obtain ⟨q1, q2, q, q3⟩ := hq
      rw [gT_sW] at q2
      rw [gT_sW, gP_sW, sW_sW] at q3
      refine ⟨q1, q2, q, ?_⟩
      rw [aZ, aT, aP, if_neg hge, if_neg hge, if_neg hge]
      exact q3
  · skip
    exact absurd (by rw [show (65536 : Int32) = nI 65536 from by decide]; exact nI_lt hl (by decide)) c6
/-- the first rows go -/
theorem s_dropFirst (hR : Rep hp M) (ht : vt y n a) {m : Nat} (hm : m ≤ (gT M y n a).length) : WM L xs (d + 1) mX4_dropFirst [.ref (xt y n a), .int (nI m)] hp (fun v hp' => v = none ∧ Rep hp' (sW M (mz M) (mt M) y n a ((gT M y n a).drop m) (gP M y n a))) := by
  have hT := hR.T ht
  have hne := hT.apart (xt_le ht).2
  have hle := hT.2.2.2.2.2.2.2.1
  have hcap := hT.2.2.2.2.2.2.2.2.1
  have hcw := cap_lt (y := y) hcap
  have hlw : (gT M y n a).length * tw y ≤ tw y * gP M y n a := by rw [Nat.mul_comm]; exact Nat.mul_le_mul_left _ hle
  have hmw : m * tw y + ((gT M y n a).length - m) * tw y = (gT M y n a).length * tw y := by rw [← Nat.add_mul]; congr 1; omega
  refine WM.of [some (.ref _), some (.int (nI m))] (by decide) rfl (Nat.le_of_ble_eq_true rfl) ?_
  refine wp_iload_n (i := 1) dX4_dropFirst_0 rfl rfl ?_
  refine wp_if_le (tgt := 12) dX4_dropFirst_1 (by decide) (fun c1 => ?_) (fun c1 => ?_)
  · skip
    have hm0 : m = 0 := by
      rcases Nat.eq_zero_or_pos m with q | q
      · exact q
      · exact absurd (by rw [← nI_0]; exact nI_lt q (by omega)) c1
    subst hm0
    refine wp_ret (v := none) dX4_dropFirst_12 rfl ?_
    refine ⟨trivial, rfl, ?_⟩
    rw [List.drop_zero]
    have e1 : sW M (mz M) (mt M) y n a (gT M y n a) (gP M y n a) = M := by
      unfold sW
      refine Prod.ext rfl (Prod.ext rfl (Prod.ext rfl (Prod.ext ?_ rfl)))
      funext y' n' a'
      by_cases h : y' = y ∧ n' = n ∧ a' = a
      · obtain ⟨rfl, rfl, rfl⟩ := h
        exact if_pos ⟨rfl, rfl, rfl⟩
      · exact if_neg h
    rw [e1]
    exact hR
  · skip
    refine wp_iload_n (i := 1) dX4_dropFirst_4 rfl rfl ?_
    refine wp_aload_n (i := 0) dX4_dropFirst_5 rfl rfl ?_
    refine wr_rows dX4_dropFirst_6 hR f_X4_25 ht ?_
    refine wp_icmp_le (tgt := 13) dX4_dropFirst_9 (by decide) (fun c9 => ?_) (fun c9 => ?_)
    · skip
      refine wp_aload_n (i := 0) dX4_dropFirst_13 rfl rfl ?_
      refine wr_cells dX4_dropFirst_14 hR f_X4_21 ht ?_
      refine wp_iload_n (i := 1) dX4_dropFirst_17 rfl rfl ?_
      refine wp_aload_n (i := 0) dX4_dropFirst_18 rfl rfl ?_
      refine wr_width dX4_dropFirst_19 hR f_X4_15 ht ?_
      refine wp_imul dX4_dropFirst_22 ?_
      refine wp_aload_n (i := 0) dX4_dropFirst_23 rfl rfl ?_
      refine wr_cells dX4_dropFirst_24 hR f_X4_21 ht ?_
      refine wp_iconst (v := 0) dX4_dropFirst_27 rfl ?_
      refine wp_aload_n (i := 0) dX4_dropFirst_28 rfl rfl ?_
      refine wr_rows dX4_dropFirst_29 hR f_X4_25 ht ?_
      refine wp_iload_n (i := 1) dX4_dropFirst_32 rfl rfl ?_
      refine wp_isub dX4_dropFirst_33 ?_
      refine wp_aload_n (i := 0) dX4_dropFirst_34 rfl rfl ?_
      refine wr_width dX4_dropFirst_35 hR f_X4_15 ht ?_
      refine wp_imul dX4_dropFirst_38 ?_
      refine wp_copy (sp := m * tw y) (dp := 0) (n := ((gT M y n a).length - m) * tw y) dX4_dropFirst_39 o_X4_29 hT.okA hT.okA (pk_mul _ _) nI_0.symm (by rw [pk_sub hm, pk_mul]) (by omega) (by omega) hcw hcw (by decide) ?_
      refine wp_aload_n (i := 0) dX4_dropFirst_42 rfl rfl ?_
      refine wp_dup dX4_dropFirst_43 rfl ?_
      refine wp_get dX4_dropFirst_44 (hR.oT ht) f_X4_25 (by decide) ?_
      rw [show hv (hcpy hp (aix hp (xt y n a)) (aix hp (xt y n a)) (m * tw y) 0 (((gT M y n a).length - m) * tw y)) (xt y n a) 2 = hv hp (xt y n a) 2 from if_neg (fun q => hne q.symm), hT.2.2.1]
      refine wp_iload_n (i := 1) dX4_dropFirst_47 rfl rfl ?_
      refine wp_isub dX4_dropFirst_48 ?_
      rw [pk_sub hm]
      refine wp_put dX4_dropFirst_49 (hR.oT ht) (p_X4_25 rfl) (okI rfl) (by decide) ?_
      refine wp_ret (v := none) dX4_dropFirst_52 rfl ?_
      exact ⟨trivial, rfl, hR.drop ht hm⟩
    · skip
      exact absurd c9 (nI_nlt hm (by omega))
theorem sW_id (M : MS) (y n a : Nat) : sW M (mz M) (mt M) y n a (gT M y n a) (gP M y n a) = M := by
  unfold sW
  refine Prod.ext rfl (Prod.ext rfl (Prod.ext rfl (Prod.ext ?_ rfl)))
  funext y' n' a'
  by_cases h : y' = y ∧ n' = n ∧ a' = a
  · obtain ⟨rfl, rfl, rfl⟩ := h
    exact if_pos ⟨rfl, rfl, rfl⟩
  · exact if_neg h
theorem w_tcopy_30 (hR : Rep hp M) (ht : vt y n a) {n' a' : Nat} (ht' : vt y n' a') (hne0 : ¬ (n' = n ∧ a' = a)) (hl : (gT M y n' a').length ≤ gP M y n a) : WP L xs (d + 1) mX4_copyFrom 30 [some (.ref (xt y n a)), some (.ref (xt y n' a')), some (.int (nI ((gT M y n' a').length * tw y)))] [] hp (fun v hp' => retOk mX4_copyFrom.2.2.2 v ∧ v = none ∧ Rep hp' (sW M (mz M) (mt M) y n a (gT M y n' a') (gP M y n a))) := by
  have hT := hR.T ht
  have hT' := hR.T ht'
  have hcw := cap_lt (y := y) hT.2.2.2.2.2.2.2.2.1
  have hcw' := cap_lt (y := y) hT'.2.2.2.2.2.2.2.2.1
  have hlw : (gT M y n' a').length * tw y ≤ tw y * gP M y n a := by rw [Nat.mul_comm]; exact Nat.mul_le_mul_left _ hl
  have hlw' : (gT M y n' a').length * tw y ≤ tw y * gP M y n' a' := by rw [Nat.mul_comm]; exact Nat.mul_le_mul_left _ hT'.2.2.2.2.2.2.2.1
  have hxA : xt y n' a' ≠ aix hp (xt y n a) := by
    have h1 := xt_le ht'
    have h2 := (xt_inj ht' ht).2
    rcases hT.2.2.2.2.1 with e | e <;> omega
  refine wp_aload_n (i := 1) dX4_copyFrom_30 rfl rfl ?_
  refine wr_cells dX4_copyFrom_31 hR f_X4_21 ht' ?_
  refine wp_iconst (v := 0) dX4_copyFrom_34 rfl ?_
  refine wp_aload_n (i := 0) dX4_copyFrom_35 rfl rfl ?_
  refine wr_cells dX4_copyFrom_36 hR f_X4_21 ht ?_
  refine wp_iconst (v := 0) dX4_copyFrom_39 rfl ?_
  refine wp_iload_n (i := 2) dX4_copyFrom_40 rfl rfl ?_
  refine wp_copy (sp := 0) (dp := 0) (n := (gT M y n' a').length * tw y) dX4_copyFrom_41 o_X4_29 hT'.okA hT.okA nI_0.symm nI_0.symm rfl (by omega) (by omega) hcw' hcw (by decide) ?_
  refine wp_aload_n (i := 0) dX4_copyFrom_44 rfl rfl ?_
  refine wp_aload_n (i := 1) dX4_copyFrom_45 rfl rfl ?_
  refine wp_get dX4_copyFrom_46 (hR.oT ht') f_X4_25 (by decide) ?_
  rw [show hv (hcpy hp (aix hp (xt y n' a')) (aix hp (xt y n a)) 0 0 ((gT M y n' a').length * tw y)) (xt y n' a') 2 = hv hp (xt y n' a') 2 from if_neg hxA, hT'.2.2.1]
  refine wp_put dX4_copyFrom_49 (hR.oT ht) (p_X4_25 rfl) (okI rfl) (by decide) ?_
  refine wp_ret (v := none) dX4_copyFrom_52 rfl ?_
  exact ⟨trivial, rfl, hR.tcopy ht ht' hne0 hl⟩
def cP (M : MS) (y n a n' a' : Nat) : Nat := if (gT M y n' a').length ≤ gP M y n a then gP M y n a else gP M y n' a'
def cZ (M : MS) (y n a n' a' : Nat) : Nat := if (gT M y n' a').length ≤ gP M y n a then mz M else mz M + 1
def cQ (M : MS) (y n a n' a' : Nat) : Nat := if (gT M y n' a').length ≤ gP M y n a then mt M else mt M + tw y * gP M y n' a'
/-- rows as another table has them -/
theorem s_tabCopy (hR : Rep hp M) (ht : vt y n a) {n' a' : Nat} (ht' : vt y n' a') (hne0 : ¬ (n' = n ∧ a' = a)) : WM L xs (d + 1) mX4_copyFrom [.ref (xt y n a), .ref (xt y n' a')] hp (fun v hp' => v = none ∧ Rep hp' (sW M (cZ M y n a n' a') (cQ M y n a n' a') y n a (gT M y n' a') (cP M y n a n' a'))) := by
  have hT := hR.T ht
  have hT' := hR.T ht'
  have hcw := cap_lt (y := y) hT.2.2.2.2.2.2.2.2.1
  have hcap' := hT'.2.2.2.2.2.2.2.2.1
  have hcw' := cap_lt (y := y) hcap'
  have hw := tw_pos y
  have hlw' : (gT M y n' a').length * tw y ≤ tw y * gP M y n' a' := by rw [Nat.mul_comm]; exact Nat.mul_le_mul_left _ hT'.2.2.2.2.2.2.2.1
  refine WM.of [some (.ref _), some (.ref _), none] (by decide) rfl (Nat.le_of_ble_eq_true rfl) ?_
  refine wp_aload_n (i := 1) dX4_copyFrom_0 rfl rfl ?_
  refine wr_rows dX4_copyFrom_1 hR f_X4_25 ht' ?_
  refine wp_aload_n (i := 1) dX4_copyFrom_4 rfl rfl ?_
  refine wr_width dX4_copyFrom_5 hR f_X4_15 ht' ?_
  refine wp_imul dX4_copyFrom_8 ?_
  rw [pk_mul]
  refine wp_istore_n (i := 2) dX4_copyFrom_9 rfl (Nat.le_of_ble_eq_true rfl) ?_
  refine wp_iload_n (i := 2) dX4_copyFrom_10 rfl rfl ?_
  refine wp_aload_n (i := 0) dX4_copyFrom_11 rfl rfl ?_
  refine wr_cells dX4_copyFrom_12 hR f_X4_21 ht ?_
  refine wp_alenI dX4_copyFrom_15 hT.okA ?_
  refine wp_icmp_le (tgt := 30) dX4_copyFrom_16 (by decide) (fun c16 => ?_) (fun c16 => ?_)
  · skip
    rw [nI_ltI hcw (by omega)] at c16
    have hle : (gT M y n' a').length ≤ gP M y n a := by
      rcases Nat.lt_or_ge (gP M y n a) (gT M y n' a').length with q | q
      · have h1 : tw y * gP M y n a < tw y * (gT M y n' a').length := Nat.mul_lt_mul_of_pos_left q hw.1
        rw [Nat.mul_comm (tw y) (gT M y n' a').length] at h1
        exact absurd h1 c16
      · exact q
    rw [cZ, cQ, cP, if_pos hle, if_pos hle, if_pos hle]
    exact w_tcopy_30 hR ht ht' hne0 hle
  · skip
    rw [nI_ltI hcw (by omega)] at c16
    have hgt : ¬ (gT M y n' a').length ≤ gP M y n a := fun q => by
      have h1 : tw y * (gT M y n' a').length ≤ tw y * gP M y n a := Nat.mul_le_mul_left _ q
      rw [Nat.mul_comm (tw y) (gT M y n' a').length] at h1
      omega
    have hl1 := hT.2.2.2.2.2.2.2.1
    have hl2 := hT'.2.2.2.2.2.2.2.1
    refine wp_aload_n (i := 0) dX4_copyFrom_19 rfl rfl ?_
    refine wp_aload_n (i := 1) dX4_copyFrom_20 rfl rfl ?_
    refine wr_cells dX4_copyFrom_21 hR f_X4_21 ht' ?_
    refine wp_alenI dX4_copyFrom_24 hT'.okA ?_
    refine wp_newI (n := tw y * gP M y n' a') dX4_copyFrom_25 arrI_in rfl (by have := Nat.mul_le_mul hw.2 hcap'; omega) ?_
    refine wp_put dX4_copyFrom_27 (okc_new (hR.oT ht)) (p_X4_21 rfl) (fun _ _ => ⟨rfl, rfl⟩) (by decide) ?_
    have hR2 := hR.zeros ht (c2 := gP M y n' a') (by omega) hcap'
    have e1 : gT (sW M (mz M + 1) (mt M + tw y * gP M y n' a') y n a (List.replicate (gT M y n a).length (fun _ => 0)) (gP M y n' a')) y n' a' = gT M y n' a' := gT_sWn (fun q => hne0 q.2)
    have hw9 := w_tcopy_30 (L := L) (xs := xs) (d := d) hR2 ht ht' hne0 (by rw [e1, gP_sW]; exact hl2)
    rw [e1, sW_sW, gP_sW] at hw9
    rw [cZ, cQ, cP, if_neg hgt, if_neg hgt, if_neg hgt]
    exact hw9
end TABLE
section SLOT
variable {L : Nat} {xs : Nat → Int32} {d : Nat} {hp : AH} {M : MS}

/-- the slot of what comes at a clock -/
theorem s_slotAt (hR : Rep hp M) {n k : Nat} (hn : n < 2) (hk : k < 2 ^ 31) : WM L xs (d + 1) mX2_slotAt [.ref (xi 0 n 0 0), .int (nI k)] hp (fun v hp' => hp' = hp ∧ v = some (.ref (xt 2 n (k % 9)))) := by
  have hk9 : k % 9 < 9 := Nat.mod_lt _ (by decide)
  refine WM.of [some (.ref _), some (.int (nI k))] (by decide) rfl (Nat.le_of_ble_eq_true rfl) ?_
  refine wp_aload_n (i := 0) dX2_slotAt_0 rfl rfl ?_
  refine wr_netR (j := rT n) dX2_slotAt_1 hR f_X2_35 hn (Or.inr (Or.inr ⟨rfl, rfl⟩)) ?_
  refine wp_iload_n (i := 1) dX2_slotAt_4 rfl rfl ?_
  refine wp_bipush (v := nI 9) dX2_slotAt_5 (by decide) ?_
  refine wp_fmod (k := k) (q := 9) dX2_slotAt_7 fm_X2_53 rfl hk rfl (by decide) (by decide) (Nat.le_of_ble_eq_true rfl) ?_
  refine wr_aT (k := (k % 9)) dX2_slotAt_10 hR rfl hn hk9 ?_
  refine wp_ret (v := some (.ref _)) dX2_slotAt_11 rfl ?_
  exact ⟨trivial, rfl, rfl⟩
end SLOT
end
section
/-! ===== numbers, all at once ===== -/
def wV (M : MS) (E : Nat → Nat → Nat → Nat → Nat → Int32) : MS := (M.1, M.2.1, E, M.2.2.2)
theorem gV_wV (M : MS) (E : Nat → Nat → Nat → Nat → Nat → Int32) (g n a b k : Nat) : gV (wV M E) g n a b k = E g n a b k := rfl
theorem wV_eq {M M' : MS} {E : Nat → Nat → Nat → Nat → Nat → Int32} (h : ∀ g n a b k, gV M' g n a b k = E g n a b k) (hr : M'.1 = M.1 ∧ M'.2.1 = M.2.1 ∧ M'.2.2.2 = M.2.2.2) : M' = wV M E := by
  obtain ⟨m1, m2, m3, m4⟩ := M'
  obtain ⟨h1, h2, h3⟩ := hr
  have h4 : m3 = E := by funext g n a b k; exact h g n a b k
  subst h4
  show (m1, m2, m3, m4) = (M.1, M.2.1, m3, M.2.2.2)
  rw [show m1 = M.1 from h1, show m2 = M.2.1 from h2, show m4 = M.2.2.2 from h3]
/-! ===== Client, I ===== -/
section CLIENT
variable {L : Nat} {xs : Nat → Int32} {d : Nat} {hp : AH} {M : MS} {n c : Nat}
def cutE (M : MS) (n c i : Nat) : Nat → Nat → Nat → Nat → Nat → Int32 := fun g' n' a' b' k' => if g' = 1 ∧ n' = n ∧ a' = c ∧ b' = 0 ∧ k' = 6 then 1 else if g' = 2 ∧ n' = n ∧ a' = c ∧ b' < i ∧ (k' = 6 ∨ k' = 7) then 0 else gV M g' n' a' b' k'

theorem w_cutLine_7 (hn : n < 2) (hc : c < 4) : ∀ (m i : Nat), 12 - i = m → i ≤ 12 → ∀ (hp : AH), Rep hp (wV M (cutE M n c i)) → WP L xs d mX0_cutLine 7 [some (.ref (xi 1 n c 0)), some (.int (nI i))] [] hp (fun v hp' => retOk mX0_cutLine.2.2.2 v ∧ v = none ∧ Rep hp' (wV M (cutE M n c 12))) := by
  intro m
  induction m using Nat.strongRecOn with
  | ind m ih =>
    intro i hm hi0 hp hR
    subst hm
    refine wp_iload_n (i := 1) dX0_cutLine_7 rfl rfl ?_
    refine wp_bipush (v := nI 12) dX0_cutLine_8 (by decide) ?_
    refine wp_icmp_ge (tgt := 39) dX0_cutLine_10 (by decide) (fun c10 => ?_) (fun c10 => ?_)
    · skip
      have hi12 : i = 12 := by
        rcases Nat.lt_or_ge i 12 with q | q
        · exact absurd (nI_lt q (by decide)) c10
        · omega
      subst hi12
      refine wp_ret (v := none) dX0_cutLine_39 rfl ?_
      exact ⟨trivial, rfl, hR⟩
    · skip
      refine wp_aload_n (i := 0) dX0_cutLine_13 rfl rfl ?_
      refine wr_cliR (j := rF n c) dX0_cutLine_14 hR f_X0_11 hn hc (Or.inl ⟨rfl, rfl⟩) ?_
      refine wp_iload_n (i := 1) dX0_cutLine_17 rfl rfl ?_
      refine wr_aF (f := i) dX0_cutLine_18 hR rfl hn hc (nI_ltI (by omega) (by decide) |>.mp c10) ?_
      refine wp_iconst (v := 0) dX0_cutLine_19 rfl ?_
      refine wr_put (g := 2) (n := n) (a := c) (b := i) (k := 6) dX0_cutLine_20 hR (p_X0_39 rfl) (vs2 hn hc (nI_ltI (by omega) (by decide) |>.mp c10) (by decide)) (by decide) (by decide) (okB rfl (by decide)) (fun hp2 hR1 => ?_)
      refine wp_aload_n (i := 0) dX0_cutLine_23 rfl rfl ?_
      refine wr_cliR (j := rF n c) dX0_cutLine_24 hR1 f_X0_11 hn hc (Or.inl ⟨rfl, rfl⟩) ?_
      refine wp_iload_n (i := 1) dX0_cutLine_27 rfl rfl ?_
      refine wr_aF (f := i) dX0_cutLine_28 hR1 rfl hn hc (nI_ltI (by omega) (by decide) |>.mp c10) ?_
      refine wp_iconst (v := 0) dX0_cutLine_29 rfl ?_
      refine wr_put (g := 2) (n := n) (a := c) (b := i) (k := 7) dX0_cutLine_30 hR1 (p_X0_42 rfl) (vs2 hn hc (nI_ltI (by omega) (by decide) |>.mp c10) (by decide)) (by decide) (by decide) (okB rfl (by decide)) (fun hp4 hR3 => ?_)
      refine wp_iinc (v := nI (i + 1)) dX0_cutLine_33 rfl (nI_1 _) ?_
      refine wp_goto (tgt := 7) dX0_cutLine_36 (by decide) ?_
      have e9 := hR3
      rw [show sV (sV (wV M (cutE M n c i)) 2 n c i 6 0) 2 n c i 7 0 = wV M (cutE M n c (i + 1)) from wV_eq (by
        intro g9 n9 a9 b9 k9
        simp only [gV_sV, gV_wV, cutE]
        repeat' split
        all_goals first | rfl | (exfalso; omega)) ⟨rfl, rfl, rfl⟩] at e9
      have hi9 := nI_ltI (by omega) (by decide) |>.mp c10
      exact ih (12 - (i + 1)) (by omega) (i + 1) rfl (by omega) _ e9
/-- the line is cut -/
theorem s_cutLine (hR : Rep hp M) (hn : n < 2) (hc : c < 4) : WM L xs d mX0_cutLine [.ref (xi 1 n c 0)] hp (fun v hp' => v = none ∧ Rep hp' (wV M (cutE M n c 12))) := by
  refine WM.of [some (.ref _), none] (by decide) rfl (Nat.le_of_ble_eq_true rfl) ?_
  refine wp_aload_n (i := 0) dX0_cutLine_0 rfl rfl ?_
  refine wp_iconst (v := 1) dX0_cutLine_1 rfl ?_
  refine wr_put (g := 1) (n := n) (a := c) (b := 0) (k := 6) dX0_cutLine_2 hR (p_X0_35 rfl) (vs1 hn hc (by decide)) (by decide) (by decide) (okB rfl (by decide)) (fun hp2 hR1 => ?_)
  refine wp_iconst (v := 0) dX0_cutLine_5 rfl ?_
  refine wp_istore_n (i := 1) dX0_cutLine_6 rfl (Nat.le_of_ble_eq_true rfl) ?_
  have e9 := hR1
  rw [show sV M 1 n c 0 6 1 = wV M (cutE M n c 0) from wV_eq (by
    intro g9 n9 a9 b9 k9
    simp only [gV_sV, cutE]
    repeat' split
    all_goals first | rfl | (exfalso; omega)) ⟨rfl, rfl, rfl⟩] at e9
  exact w_cutLine_7 hn hc 12 0 rfl (by decide) _ e9
def endE (M : MS) (n c i : Nat) : Nat → Nat → Nat → Nat → Nat → Int32 := fun g' n' a' b' k' => if g' = 2 ∧ n' = n ∧ a' = c ∧ b' < i ∧ k' = 3 then -1 else gV M g' n' a' b' k'
theorem w_endLeases_2 (hn : n < 2) (hc : c < 4) : ∀ (m i : Nat), 12 - i = m → i ≤ 12 → ∀ (hp : AH), Rep hp (wV M (endE M n c i)) → WP L xs d mX0_endLeases 2 [some (.ref (xi 1 n c 0)), some (.int (nI i))] [] hp (fun v hp' => retOk mX0_endLeases.2.2.2 v ∧ v = none ∧ Rep hp' (wV M (endE M n c 12))) := by
  intro m
  induction m using Nat.strongRecOn with
  | ind m ih =>
    intro i hm hi0 hp hR
    subst hm
    refine wp_iload_n (i := 1) dX0_endLeases_2 rfl rfl ?_
    refine wp_bipush (v := nI 12) dX0_endLeases_3 (by decide) ?_
    refine wp_icmp_ge (tgt := 24) dX0_endLeases_5 (by decide) (fun c5 => ?_) (fun c5 => ?_)
    · skip
      have hi12 : i = 12 := by
        rcases Nat.lt_or_ge i 12 with q | q
        · exact absurd (nI_lt q (by decide)) c5
        · omega
      subst hi12
      refine wp_ret (v := none) dX0_endLeases_24 rfl ?_
      exact ⟨trivial, rfl, hR⟩
    · skip
      refine wp_aload_n (i := 0) dX0_endLeases_8 rfl rfl ?_
      refine wr_cliR (j := rF n c) dX0_endLeases_9 hR f_X0_11 hn hc (Or.inl ⟨rfl, rfl⟩) ?_
      refine wp_iload_n (i := 1) dX0_endLeases_12 rfl rfl ?_
      refine wr_aF (f := i) dX0_endLeases_13 hR rfl hn hc (nI_ltI (by omega) (by decide) |>.mp c5) ?_
      refine wp_iconst (v := (-1)) dX0_endLeases_14 rfl ?_
      refine wr_put (g := 2) (n := n) (a := c) (b := i) (k := 3) dX0_endLeases_15 hR (p_X0_45 rfl) (vs2 hn hc (nI_ltI (by omega) (by decide) |>.mp c5) (by decide)) (by decide) (by decide) (okI rfl) (fun hp2 hR1 => ?_)
      refine wp_iinc (v := nI (i + 1)) dX0_endLeases_18 rfl (nI_1 _) ?_
      refine wp_goto (tgt := 2) dX0_endLeases_21 (by decide) ?_
      have e9 := hR1
      have hi9 := nI_ltI (by omega) (by decide) |>.mp c5
      rw [show sV (wV M (endE M n c i)) 2 n c i 3 (-1) = wV M (endE M n c (i + 1)) from wV_eq (by
        intro g9 n9 a9 b9 k9
        simp only [gV_sV, gV_wV, endE]
        repeat' split
        all_goals first | rfl | (exfalso; omega)) ⟨rfl, rfl, rfl⟩] at e9
      exact ih (12 - (i + 1)) (by omega) (i + 1) rfl (by omega) _ e9
/-- the leases are over -/
theorem s_endLeases (hR : Rep hp M) (hn : n < 2) (hc : c < 4) : WM L xs d mX0_endLeases [.ref (xi 1 n c 0)] hp (fun v hp' => v = none ∧ Rep hp' (wV M (endE M n c 12))) := by
  refine WM.of [some (.ref _), none] (by decide) rfl (Nat.le_of_ble_eq_true rfl) ?_
  refine wp_iconst (v := 0) dX0_endLeases_0 rfl ?_
  refine wp_istore_n (i := 1) dX0_endLeases_1 rfl (Nat.le_of_ble_eq_true rfl) ?_
  have e9 := hR
  rw [show M = wV M (endE M n c 0) from wV_eq (by
    intro g9 n9 a9 b9 k9
    simp only [endE]
    repeat' split
    all_goals first | rfl | (exfalso; omega)) ⟨rfl, rfl, rfl⟩] at e9
  exact w_endLeases_2 hn hc 12 0 rfl (by decide) _ e9
/-- the order of use, as a list of files -/
def Ord (M : MS) (n c : Nat) (l : List Nat) : Prop := gV M 1 n c 0 2 = nI l.length ∧ l.length ≤ 12 ∧ (∀ f, f ∈ l → f < 12) ∧ ∀ (k f : Nat), l[k]? = some f → gV M 3 n c 0 k = nI f
/-- where a file stands -/
def pOf (l : List Nat) (f : Nat) : Int32 := if f ∈ l then nI (l.idxOf f) else -1
theorem w_placeOf_2 (hR : Rep hp M) (hn : n < 2) (hc : c < 4) {l : List Nat} (hO : Ord M n c l) {f : Nat} (hf : f < 12) : ∀ (m i : Nat), l.length - i = m → i ≤ l.length → (∀ k, k < i → l[k]? ≠ some f) → WP L xs d mX0_placeOf 2 [some (.ref (xi 1 n c 0)), some (.int (nI f)), some (.int (nI i))] [] hp (fun v hp' => retOk mX0_placeOf.2.2.2 v ∧ hp' = hp ∧ v = some (.int (pOf l f))) := by
  intro m
  induction m using Nat.strongRecOn with
  | ind m ih =>
    intro i hm hi0 hno
    subst hm
    obtain ⟨o1, o2, o3, o4⟩ := id hO
    refine wp_iload_n (i := 2) dX0_placeOf_2 rfl rfl ?_
    refine wp_aload_n (i := 0) dX0_placeOf_3 rfl rfl ?_
    refine wr_get (g := 1) (n := n) (a := c) (b := 0) (k := 2) dX0_placeOf_4 hR f_X0_52 (vs1 hn hc (by decide)) (by decide) (by decide) ?_
    refine wp_icmp_ge (tgt := 28) dX0_placeOf_7 (by decide) (fun c7 => ?_) (fun c7 => ?_)
    · skip
      have hi12 : i = l.length := by
        rcases Nat.lt_or_ge i l.length with q | q
        · exact absurd (by rw [o1]; exact nI_lt q (by omega)) c7
        · omega
      refine wp_iconst (v := (-1)) dX0_placeOf_28 rfl ?_
      refine wp_ret (v := some (.int _)) dX0_placeOf_29 rfl ?_
      refine ⟨trivial, rfl, ?_⟩
      unfold pOf
      rw [if_neg]
      intro hm
      obtain ⟨k, hk⟩ := List.getElem?_of_mem hm
      exact hno k (by have := (List.getElem?_eq_some_iff.mp hk).1; omega) hk
    · skip
      have hil : i < l.length := by
        rw [o1] at c7
        exact (nI_ltI (by omega) (by omega)).mp c7
      have hget : l[i]? = some l[i] := List.getElem?_eq_getElem hil
      have hi : i < 12 := by omega
      refine wp_aload_n (i := 0) dX0_placeOf_10 rfl rfl ?_
      refine wr_cliR (j := xi 3 n c 0) dX0_placeOf_11 hR f_X0_17 hn hc (Or.inr (Or.inl ⟨rfl, rfl⟩)) ?_
      refine wp_iload_n (i := 2) dX0_placeOf_14 rfl rfl ?_
      refine wr_ordG (k := i) dX0_placeOf_15 hR rfl (vs3 hn hc hi) ?_
      refine wp_iload_n (i := 1) dX0_placeOf_16 rfl rfl ?_
      refine wp_icmp_ne (tgt := 22) dX0_placeOf_17 (by decide) (fun c17 => ?_) (fun c17 => ?_)
      · skip
        refine wp_iinc (v := nI (i + 1)) dX0_placeOf_22 rfl (nI_1 _) ?_
        refine wp_goto (tgt := 2) dX0_placeOf_25 (by decide) ?_
        rw [o4 i l[i] hget] at c17
        exact ih (l.length - (i + 1)) (by omega) (i + 1) rfl (by omega) (fun k hk => by
          rcases Nat.lt_or_ge k i with q | q
          · exact hno k q
          · have hki : k = i := by omega
            subst hki
            rw [hget]
            intro q
            exact c17 (congrArg nI (Option.some.inj q)))
      · skip
        refine wp_iload_n (i := 2) dX0_placeOf_20 rfl rfl ?_
        refine wp_ret (v := some (.int _)) dX0_placeOf_21 rfl ?_
        refine ⟨trivial, rfl, ?_⟩
        rw [o4 i l[i] hget] at c17
        have e9 : l[i] = f := (nI_eq (by have := o3 l[i] (List.getElem_mem hil); omega) (by omega)).mp c17
        have hmem : f ∈ l := by rw [← e9]; exact List.getElem_mem hil
        unfold pOf
        rw [if_pos hmem]
        have hidx : l.idxOf f = i := by
          have h1 : l.idxOf f < l.length := List.idxOf_lt_length_iff.mpr hmem
          have h2 : l[l.idxOf f] = f := List.getElem_idxOf h1
          rcases Nat.lt_trichotomy (l.idxOf f) i with q | q | q
          · exact absurd ((List.getElem?_eq_getElem h1).trans (congrArg some h2)) (hno _ q)
          · exact q
          · have h3 := List.not_of_lt_findIdx (p := fun x => x == f) (xs := l) (i := i) q
            simp [e9] at h3
        rw [hidx]
/-- where a file stands in the order -/
theorem s_placeOf (hR : Rep hp M) (hn : n < 2) (hc : c < 4) {l : List Nat} (hO : Ord M n c l) {f : Nat} (hf : f < 12) : WM L xs d mX0_placeOf [.ref (xi 1 n c 0), .int (nI f)] hp (fun v hp' => hp' = hp ∧ v = some (.int (pOf l f))) := by
  refine WM.of [some (.ref _), some (.int (nI f)), none] (by decide) rfl (Nat.le_of_ble_eq_true rfl) ?_
  refine wp_iconst (v := 0) dX0_placeOf_0 rfl ?_
  refine wp_istore_n (i := 2) dX0_placeOf_1 rfl (Nat.le_of_ble_eq_true rfl) ?_
  exact w_placeOf_2 hR hn hc hO hf l.length 0 rfl (Nat.zero_le _) (fun k hk => absurd hk (Nat.not_lt_zero k))
end CLIENT
end
section
/-! ===== Client, II: the order of use changes, files go ===== -/
/-- the order of use, and files that went -/
def cO (M : MS) (n c : Nat) (cnt : Int32) (F : Nat → Int32) (z : List Nat) : MS := wV M (fun g' n' a' b' k' => if g' = 1 ∧ n' = n ∧ a' = c ∧ b' = 0 ∧ k' = 2 then cnt else if g' = 3 ∧ n' = n ∧ a' = c ∧ b' = 0 then F k' else if g' = 2 ∧ n' = n ∧ a' = c ∧ b' ∈ z ∧ k' = 0 then 0 else if g' = 2 ∧ n' = n ∧ a' = c ∧ b' ∈ z ∧ k' = 3 then -1 else gV M g' n' a' b' k')
theorem cO_cnt (M : MS) (n c : Nat) (cnt : Int32) (F : Nat → Int32) (z : List Nat) : gV (cO M n c cnt F z) 1 n c 0 2 = cnt := if_pos ⟨rfl, rfl, rfl, rfl, rfl⟩
theorem cO_ord (M : MS) (n c : Nat) (cnt : Int32) (F : Nat → Int32) (z : List Nat) (k : Nat) : gV (cO M n c cnt F z) 3 n c 0 k = F k := by
  unfold cO
  rw [gV_wV, if_neg (by omega), if_pos ⟨rfl, rfl, rfl, rfl⟩]
theorem cO_he (M : MS) (n c : Nat) (cnt : Int32) (F : Nat → Int32) (z : List Nat) (f k : Nat) (h : f ∉ z ∨ (k ≠ 0 ∧ k ≠ 3)) : gV (cO M n c cnt F z) 2 n c f k = gV M 2 n c f k := by
  unfold cO
  rw [gV_wV, if_neg (by omega), if_neg (by omega), if_neg, if_neg]
  · rintro ⟨-, -, -, h1, h2⟩; rcases h with h | h; exact h h1; exact h.2 h2
  · rintro ⟨-, -, -, h1, h2⟩; rcases h with h | h; exact h h1; exact h.1 h2
theorem cO_cO (M : MS) (n c : Nat) (cnt cnt2 : Int32) (F F2 : Nat → Int32) (z z2 : List Nat) : cO (cO M n c cnt F z) n c cnt2 F2 z2 = cO M n c cnt2 F2 (z2 ++ z) := by
  unfold cO
  refine wV_eq (fun g9 n9 a9 b9 k9 => ?_) ⟨rfl, rfl, rfl⟩
  simp only [gV_wV, List.mem_append]
  repeat' split
  all_goals first | rfl | (exfalso; omega) | (exfalso; simp_all)
theorem cO_id (M : MS) (n c : Nat) : cO M n c (gV M 1 n c 0 2) (gV M 3 n c 0) [] = M := by
  refine (wV_eq (M := M) (M' := M) (fun g9 n9 a9 b9 k9 => ?_) ⟨rfl, rfl, rfl⟩).symm
  repeat' split
  · rename_i h; obtain ⟨rfl, rfl, rfl, rfl, rfl⟩ := h; rfl
  · rename_i h; obtain ⟨rfl, rfl, rfl, rfl⟩ := h; rfl
  · rename_i h; exact absurd h.2.2.2.1 List.not_mem_nil
  · rename_i h; exact absurd h.2.2.2.1 List.not_mem_nil
  · rfl
/-- a row lists these files -/
def Lst (F : Nat → Int32) (l : List Nat) : Prop := ∀ (k f : Nat), l[k]? = some f → F k = nI f
theorem Ord.of_cO {M : MS} {n c : Nat} {F : Nat → Int32} {z l : List Nat} (h1 : l.length ≤ 12) (h2 : ∀ f, f ∈ l → f < 12) (h3 : Lst F l) : Ord (cO M n c (nI l.length) F z) n c l :=
  ⟨cO_cnt _ _ _ _ _ _, h1, h2, fun k f h => by rw [cO_ord]; exact h3 k f h⟩
section CLIENT2
variable {L : Nat} {xs : Nat → Int32} {d : Nat} {hp : AH} {M : MS} {n c : Nat} {Q : Option Value → AH → Prop}

theorem cO_put {M : MS} {n c : Nat} {cnt : Int32} {F : Nat → Int32} {z : List Nat} {k : Nat} {v : Int32} : sV (cO M n c cnt F z) 3 n c 0 k v = cO M n c cnt (upd F k v) z := by
  unfold cO
  refine wV_eq (fun g9 n9 a9 b9 k9 => ?_) ⟨rfl, rfl, rfl⟩
  simp only [gV_sV, gV_wV, upd]
  repeat' split
  all_goals first | rfl | (exfalso; omega)
theorem w_use_38 (hn : n < 2) (hc : c < 4) {cnt : Int32} {f : Nat} {x2 : Int32} : ∀ (i : Nat) (F : Nat → Int32) (hp : AH), i < 12 → Rep hp (cO M n c cnt F []) →
    (∀ (hp' : AH) (F' : Nat → Int32), (∀ k, F' k = if 0 < k ∧ k ≤ i then F (k - 1) else F k) → Rep hp' (cO M n c cnt F' []) → WP L xs d mX0_use 62 [some (.ref (xi 1 n c 0)), some (.int (nI f)), some (.int x2), some (.int (nI 0))] [] hp' Q) →
    WP L xs d mX0_use 38 [some (.ref (xi 1 n c 0)), some (.int (nI f)), some (.int x2), some (.int (nI i))] [] hp Q := by
  intro i
  induction i with
  | zero =>
    intro F hp hi hR kk
    refine wp_iload_n (i := 3) dX0_use_38 rfl rfl ?_
    refine wp_if_le (tgt := 62) dX0_use_39 (by decide) (fun c39 => ?_) (fun c39 => absurd c39 (by decide))
    exact kk hp F (fun k => by rw [if_neg (by omega)]) hR
  | succ j ih =>
    intro F hp hi hR kk
    refine wp_iload_n (i := 3) dX0_use_38 rfl rfl ?_
    refine wp_if_le (tgt := 62) dX0_use_39 (by decide) (fun c39 => ?_) (fun c39 => ?_)
    · skip
      exact absurd (by rw [← nI_0]; exact nI_lt (Nat.succ_pos j) (by omega)) c39
    · skip
      refine wp_aload_n (i := 0) dX0_use_42 rfl rfl ?_
      refine wr_cliR (j := xi 3 n c 0) dX0_use_43 hR f_X0_17 hn hc (Or.inr (Or.inl ⟨rfl, rfl⟩)) ?_
      refine wp_iload_n (i := 3) dX0_use_46 rfl rfl ?_
      refine wp_aload_n (i := 0) dX0_use_47 rfl rfl ?_
      refine wr_cliR (j := xi 3 n c 0) dX0_use_48 hR f_X0_17 hn hc (Or.inr (Or.inl ⟨rfl, rfl⟩)) ?_
      refine wp_iload_n (i := 3) dX0_use_51 rfl rfl ?_
      refine wp_iconst (v := 1) dX0_use_52 rfl ?_
      refine wp_isub dX0_use_53 ?_
      refine wr_ordG (k := j) dX0_use_54 hR (nI_pred j) (vs3 hn hc (by omega)) ?_
      refine wr_ordP (k := (j + 1)) dX0_use_55 hR rfl (vs3 hn hc hi) (fun hp2 hR1 => ?_)
      refine wp_iinc (v := nI j) dX0_use_56 rfl (pk_m1 _) ?_
      refine wp_goto (tgt := 38) dX0_use_59 (by decide) ?_
      rw [cO_ord, cO_put] at hR1
      exact ih _ _ (by omega) hR1 (fun hp' F' hF hR' => kk hp' F' (fun k => by
        rw [hF k]
        simp only [upd]
        repeat' split
        all_goals first | rfl | (exfalso; omega) | (congr 1; omega) | skip) hR')
def useL (l : List Nat) (f : Nat) : List Nat := f :: l.erase f
theorem erase_get {l : List Nat} {f : Nat} (hm : f ∈ l) (k : Nat) : (l.erase f)[k]? = if k < l.idxOf f then l[k]? else l[k + 1]? := by
  rw [List.erase_eq_eraseIdx_of_idxOf (a := f) (l := l) (i := l.idxOf f) rfl, List.getElem?_eraseIdx]
theorem use_Lst {F F' : Nat → Int32} {l : List Nat} {f p : Nat} (h : Lst F l) (hp : p = if f ∈ l then l.idxOf f else l.length) (hF : ∀ k, F' k = if 0 < k ∧ k ≤ p then F (k - 1) else F k) : Lst (upd F' 0 (nI f)) (useL l f) := by
  intro k q hq
  unfold useL at hq
  cases k with
  | zero =>
    simp at hq
    subst hq
    simp [upd]
  | succ k =>
    rw [List.getElem?_cons_succ] at hq
    simp only [upd, Nat.succ_ne_zero, if_false]
    rw [hF]
    by_cases hm : f ∈ l
    · rw [if_pos hm] at hp
      rw [erase_get hm, ← hp] at hq
      by_cases hk : k < p
      · rw [if_pos hk] at hq
        rw [if_pos ⟨Nat.succ_pos _, hk⟩, Nat.add_sub_cancel]
        exact h _ _ hq
      · rw [if_neg hk] at hq
        rw [if_neg (by omega)]
        exact h _ _ hq
    · rw [if_neg hm] at hp
      rw [List.erase_of_not_mem hm] at hq
      have hk := (List.getElem?_eq_some_iff.mp hq).1
      rw [if_pos ⟨Nat.succ_pos _, by omega⟩, Nat.add_sub_cancel]
      exact h _ _ hq
theorem useL_len {l : List Nat} {f : Nat} : (useL l f).length = if f ∈ l then l.length else l.length + 1 := by
  unfold useL
  by_cases hm : f ∈ l
  · have h1 := List.length_pos_of_mem hm
    rw [if_pos hm, List.length_cons, List.length_erase_of_mem hm]
    omega
  · rw [if_neg hm, List.length_cons, List.erase_of_not_mem hm]
theorem Ord.id {M : MS} {n c : Nat} {l : List Nat} (h : Ord M n c l) {hp : AH} (hR : Rep hp M) : Rep hp (cO M n c (nI l.length) (gV M 3 n c 0) []) := by
  rw [← h.1, cO_id]
  exact hR
/-- a file is used -/
theorem s_use (hR : Rep hp M) (hn : n < 2) (hc : c < 4) {l : List Nat} (hO : Ord M n c l) {f : Nat} (hf : f < 12) (hroom : f ∈ l ∨ l.length < 12) : WM L xs (d + 1) mX0_use [.ref (xi 1 n c 0), .int (nI f)] hp (fun v hp' => v = none ∧ ∃ F, Rep hp' (cO M n c (nI (useL l f).length) F []) ∧ Lst F (useL l f)) := by
  obtain ⟨o1, o2, o3, o4⟩ := _root_.id hO
  have hR0 := hO.id hR
  refine WM.of [some (.ref _), some (.int (nI f)), none, none] (by decide) rfl (Nat.le_of_ble_eq_true rfl) ?_
  refine wp_aload_n (i := 0) dX0_use_0 rfl rfl ?_
  refine wp_iload_n (i := 1) dX0_use_1 rfl rfl ?_
  refine wp_callV (N := mX0_placeOf) dX0_use_2 l_X0_48 v_X0_placeOf rfl (hR.oo (vs1 hn hc (k := 2) (by decide)) (by decide)) rfl (by decide) (s_placeOf hR hn hc hO hf) (fun v hp1 hq => ?_)
  obtain ⟨rfl, rfl⟩ := hq
  by_cases hm : f ∈ l
  · have hidx := List.idxOf_lt_length_iff.mpr hm
    rw [pOf, if_pos hm]
    have h8 : ¬ nI (l.idxOf f) = -1 := fun q => by
      have h9 := congrArg Int32.toInt q
      rw [nI_toInt (by omega), show (-1 : Int32).toInt = -1 from by decide] at h9
      omega
    refine wp_istore_n (i := 2) dX0_use_5 rfl (Nat.le_of_ble_eq_true rfl) ?_
    refine wp_iload_n (i := 2) dX0_use_6 rfl rfl ?_
    refine wp_iconst (v := (-1)) dX0_use_7 rfl ?_
    refine wp_icmp_ne (tgt := 36) dX0_use_8 (by decide) (fun c8 => ?_) (fun c8 => ?_)
    · skip
      refine wp_iload_n (i := 2) dX0_use_36 rfl rfl ?_
      refine wp_istore_n (i := 3) dX0_use_37 rfl (Nat.le_of_ble_eq_true rfl) ?_
      refine w_use_38 hn hc (l.idxOf f) _ _ (by omega) hR0 (fun hp' F' hF hR' => ?_)
      refine wp_aload_n (i := 0) dX0_use_62 rfl rfl ?_
      refine wr_cliR (j := xi 3 n c 0) dX0_use_63 hR' f_X0_17 hn hc (Or.inr (Or.inl ⟨rfl, rfl⟩)) ?_
      refine wp_iconst (v := 0) dX0_use_66 rfl ?_
      refine wp_iload_n (i := 1) dX0_use_67 rfl rfl ?_
      refine wr_ordP (k := 0) dX0_use_68 hR' rfl (vs3 hn hc (by decide)) (fun hp2 hR2 => ?_)
      rw [cO_put] at hR2
      refine wp_ret (v := none) dX0_use_69 rfl ?_
      refine ⟨trivial, rfl, _, ?_, use_Lst (p := l.idxOf f) (fun k q h => o4 k q h) (by first | rw [if_pos hm] | rw [if_neg hm]) hF⟩
      first | (rw [useL_len, if_pos hm]; exact hR2) | (rw [useL_len, if_neg hm]; exact hR2)
    · skip
      exact absurd c8 h8
  · rw [pOf, if_neg hm]
    have hl12 := hroom.resolve_left hm
    refine wp_istore_n (i := 2) dX0_use_5 rfl (Nat.le_of_ble_eq_true rfl) ?_
    refine wp_iload_n (i := 2) dX0_use_6 rfl rfl ?_
    refine wp_iconst (v := (-1)) dX0_use_7 rfl ?_
    refine wp_icmp_ne (tgt := 36) dX0_use_8 (by decide) (fun c8 => ?_) (fun c8 => ?_)
    · skip
      exact absurd rfl c8
    · skip
      refine wp_aload_n (i := 0) dX0_use_11 rfl rfl ?_
      refine wr_get (g := 1) (n := n) (a := c) (b := 0) (k := 2) dX0_use_12 hR f_X0_52 (vs1 hn hc (by decide)) (by decide) (by decide) ?_
      refine wp_bipush (v := nI 12) dX0_use_15 (by decide) ?_
      refine wp_icmp_lt (tgt := 21) dX0_use_17 (by decide) (fun c17 => ?_) (fun c17 => ?_)
      · skip
        refine wp_aload_n (i := 0) dX0_use_21 rfl rfl ?_
        refine wr_get (g := 1) (n := n) (a := c) (b := 0) (k := 2) dX0_use_22 hR f_X0_52 (vs1 hn hc (by decide)) (by decide) (by decide) ?_
        rw [o1]
        refine wp_istore_n (i := 2) dX0_use_25 rfl (Nat.le_of_ble_eq_true rfl) ?_
        refine wp_aload_n (i := 0) dX0_use_26 rfl rfl ?_
        refine wp_dup dX0_use_27 rfl ?_
        refine wr_get (g := 1) (n := n) (a := c) (b := 0) (k := 2) dX0_use_28 hR f_X0_52 (vs1 hn hc (by decide)) (by decide) (by decide) ?_
        refine wp_iconst (v := 1) dX0_use_31 rfl ?_
        refine wp_iadd dX0_use_32 ?_
        refine wr_put (g := 1) (n := n) (a := c) (b := 0) (k := 2) dX0_use_33 hR (p_X0_52 rfl) (vs1 hn hc (by decide)) (by decide) (by decide) (okI rfl) (fun hp2 hR1 => ?_)
        refine wp_iload_n (i := 2) dX0_use_36 rfl rfl ?_
        refine wp_istore_n (i := 3) dX0_use_37 rfl (Nat.le_of_ble_eq_true rfl) ?_
        have e9 : sV M 1 n c 0 2 (gV M 1 n c 0 2 + 1) = cO M n c (nI (l.length + 1)) (gV M 3 n c 0) [] := by
          rw [o1, nI_1]
          refine wV_eq (fun g9 n9 a9 b9 k9 => ?_) ⟨rfl, rfl, rfl⟩
          simp only [gV_sV]
          repeat' split
          all_goals first | rfl | (exfalso; omega) | skip
          all_goals first | (rename_i h; obtain ⟨rfl, rfl, rfl, rfl⟩ := h; rfl) | (rename_i h; exact absurd h.2.2.2.1 List.not_mem_nil)
        rw [e9] at hR1
        refine w_use_38 hn hc (l.length) _ _ (by omega) hR1 (fun hp' F' hF hR' => ?_)
        refine wp_aload_n (i := 0) dX0_use_62 rfl rfl ?_
        refine wr_cliR (j := xi 3 n c 0) dX0_use_63 hR' f_X0_17 hn hc (Or.inr (Or.inl ⟨rfl, rfl⟩)) ?_
        refine wp_iconst (v := 0) dX0_use_66 rfl ?_
        refine wp_iload_n (i := 1) dX0_use_67 rfl rfl ?_
        refine wr_ordP (k := 0) dX0_use_68 hR' rfl (vs3 hn hc (by decide)) (fun hp2 hR2 => ?_)
        rw [cO_put] at hR2
        refine wp_ret (v := none) dX0_use_69 rfl ?_
        refine ⟨trivial, rfl, _, ?_, use_Lst (p := l.length) (fun k q h => o4 k q h) (by first | rw [if_pos hm] | rw [if_neg hm]) hF⟩
        first | (rw [useL_len, if_pos hm]; exact hR2) | (rw [useL_len, if_neg hm]; exact hR2)
      · skip
        rw [o1] at c17
        exact absurd (nI_lt (hroom.resolve_left hm) (by decide)) c17
end CLIENT2
end
section
/-! ===== Client, III: a file goes ===== -/
theorem nI_dec (i : Nat) : nI i + Int32.ofInt (-1) = nI i - 1 := by
  show nI i + (-1) = nI i - 1
  rw [Int32.sub_eq_add_neg]
section CLIENT3
variable {L : Nat} {xs : Nat → Int32} {d : Nat} {hp : AH} {M : MS} {n c : Nat} {Q : Option Value → AH → Prop}
theorem w_letGo_24 (hn : n < 2) (hc : c < 4) {m f : Nat} {x2 : Int32} (hm : m < 12) : ∀ (q i : Nat) (F : Nat → Int32) (hp : AH), m - i = q → i ≤ m → Rep hp (cO M n c (nI m) F []) →
    (∀ (hp' : AH) (F' : Nat → Int32), (∀ k, F' k = if i ≤ k ∧ k < m then F (k + 1) else F k) → Rep hp' (cO M n c (nI m) F' []) → WP L xs d mX0_letGo 52 [some (.ref (xi 1 n c 0)), some (.int (nI f)), some (.int x2), some (.int (nI m))] [] hp' Q) →
    WP L xs d mX0_letGo 24 [some (.ref (xi 1 n c 0)), some (.int (nI f)), some (.int x2), some (.int (nI i))] [] hp Q := by
  intro q
  induction q using Nat.strongRecOn with
  | ind q ih =>
    intro i F hp hq hi hR kk
    subst hq
    refine wp_iload_n (i := 3) dX0_letGo_24 rfl rfl ?_
    refine wp_aload_n (i := 0) dX0_letGo_25 rfl rfl ?_
    refine wr_get (g := 1) (n := n) (a := c) (b := 0) (k := 2) dX0_letGo_26 hR f_X0_52 (vs1 hn hc (by decide)) (by decide) (by decide) ?_
    refine wp_icmp_ge (tgt := 52) dX0_letGo_29 (by decide) (fun c29 => ?_) (fun c29 => ?_)
    · skip
      rw [cO_cnt] at c29
      have hie : i = m := by
        rcases Nat.lt_or_ge i m with z | z
        · exact absurd (nI_lt z (by omega)) c29
        · omega
      subst hie
      exact kk hp F (fun k => by rw [if_neg (by omega)]) hR
    · skip
      rw [cO_cnt, nI_ltI (by omega) (by omega)] at c29
      refine wp_aload_n (i := 0) dX0_letGo_32 rfl rfl ?_
      refine wr_cliR (j := xi 3 n c 0) dX0_letGo_33 hR f_X0_17 hn hc (Or.inr (Or.inl ⟨rfl, rfl⟩)) ?_
      refine wp_iload_n (i := 3) dX0_letGo_36 rfl rfl ?_
      refine wp_aload_n (i := 0) dX0_letGo_37 rfl rfl ?_
      refine wr_cliR (j := xi 3 n c 0) dX0_letGo_38 hR f_X0_17 hn hc (Or.inr (Or.inl ⟨rfl, rfl⟩)) ?_
      refine wp_iload_n (i := 3) dX0_letGo_41 rfl rfl ?_
      refine wp_iconst (v := 1) dX0_letGo_42 rfl ?_
      refine wp_iadd dX0_letGo_43 ?_
      refine wr_ordG (k := i + 1) dX0_letGo_44 hR (nI_1 i) (vs3 hn hc (by omega)) ?_
      refine wr_ordP (k := i) dX0_letGo_45 hR rfl (vs3 hn hc (by omega)) (fun hp2 hR1 => ?_)
      refine wp_iinc (v := nI (i + 1)) dX0_letGo_46 rfl (nI_1 _) ?_
      refine wp_goto (tgt := 24) dX0_letGo_49 (by decide) ?_
      rw [cO_ord, cO_put] at hR1
      exact ih (m - (i + 1)) (by omega) (i + 1) _ _ rfl (by omega) hR1 (fun hp' F' hF hR' => kk hp' F' (fun k => by
        rw [hF k]
        simp only [upd]
        repeat' split
        all_goals first | rfl | (exfalso; omega) | (congr 1; omega) | skip) hR')
theorem erase_Lst {F F' : Nat → Int32} {l : List Nat} {f : Nat} (h : Lst F l) (hm : f ∈ l) (hF : ∀ k, F' k = if l.idxOf f ≤ k ∧ k < l.length - 1 then F (k + 1) else F k) : Lst F' (l.erase f) := by
  intro k q hq
  have hk := (List.getElem?_eq_some_iff.mp hq).1
  rw [List.length_erase_of_mem hm] at hk
  rw [erase_get hm] at hq
  rw [hF]
  by_cases h1 : k < l.idxOf f
  · rw [if_pos h1] at hq
    rw [if_neg (by omega)]
    exact h _ _ hq
  · rw [if_neg h1] at hq
    rw [if_pos ⟨by omega, hk⟩]
    exact h _ _ hq
/-- a file goes, if it is there -/
theorem s_letGo (hR : Rep hp M) (hn : n < 2) (hc : c < 4) {l : List Nat} (hO : Ord M n c l) {f : Nat} (hf : f < 12) : WM L xs (d + 1) mX0_letGo [.ref (xi 1 n c 0), .int (nI f)] hp (fun v hp' => v = none ∧ ((f ∈ l ∧ ∃ F, Rep hp' (cO M n c (nI (l.erase f).length) F [f]) ∧ Lst F (l.erase f)) ∨ (f ∉ l ∧ Rep hp' M))) := by
  obtain ⟨o1, o2, o3, o4⟩ := _root_.id hO
  refine WM.of [some (.ref _), some (.int (nI f)), none, none] (by decide) rfl (Nat.le_of_ble_eq_true rfl) ?_
  refine wp_aload_n (i := 0) dX0_letGo_0 rfl rfl ?_
  refine wp_iload_n (i := 1) dX0_letGo_1 rfl rfl ?_
  refine wp_callV (N := mX0_placeOf) dX0_letGo_2 l_X0_48 v_X0_placeOf rfl (hR.oo (vs1 hn hc (k := 2) (by decide)) (by decide)) rfl (by decide) (s_placeOf hR hn hc hO hf) (fun v hp1 hq => ?_)
  obtain ⟨rfl, rfl⟩ := hq
  by_cases hm : f ∈ l
  · have hidx := List.idxOf_lt_length_iff.mpr hm
    rw [pOf, if_pos hm]
    have h8 : ¬ nI (l.idxOf f) = -1 := fun q => by
      have h9 := congrArg Int32.toInt q
      rw [nI_toInt (by omega), show (-1 : Int32).toInt = -1 from by decide] at h9
      omega
    refine wp_istore_n (i := 2) dX0_letGo_5 rfl (Nat.le_of_ble_eq_true rfl) ?_
    refine wp_iload_n (i := 2) dX0_letGo_6 rfl rfl ?_
    refine wp_iconst (v := (-1)) dX0_letGo_7 rfl ?_
    refine wp_icmp_ne (tgt := 12) dX0_letGo_8 (by decide) (fun c8 => ?_) (fun c8 => ?_)
    · skip
      refine wp_aload_n (i := 0) dX0_letGo_12 rfl rfl ?_
      refine wp_dup dX0_letGo_13 rfl ?_
      refine wr_get (g := 1) (n := n) (a := c) (b := 0) (k := 2) dX0_letGo_14 hR f_X0_52 (vs1 hn hc (by decide)) (by decide) (by decide) ?_
      refine wp_iconst (v := 1) dX0_letGo_17 rfl ?_
      refine wp_isub dX0_letGo_18 ?_
      refine wr_put (g := 1) (n := n) (a := c) (b := 0) (k := 2) dX0_letGo_19 hR (p_X0_52 rfl) (vs1 hn hc (by decide)) (by decide) (by decide) (okI rfl) (fun hp2 hR1 => ?_)
      refine wp_iload_n (i := 2) dX0_letGo_22 rfl rfl ?_
      refine wp_istore_n (i := 3) dX0_letGo_23 rfl (Nat.le_of_ble_eq_true rfl) ?_
      have e9 : sV M 1 n c 0 2 (gV M 1 n c 0 2 - 1) = cO M n c (nI (l.length - 1)) (gV M 3 n c 0) [] := by
        rw [o1, show (1 : Int32) = nI 1 from rfl, pk_sub (by omega)]
        refine wV_eq (fun g9 n9 a9 b9 k9 => ?_) ⟨rfl, rfl, rfl⟩
        simp only [gV_sV]
        repeat' split
        all_goals first | rfl | (exfalso; omega) | skip
        all_goals first | (rename_i h; obtain ⟨rfl, rfl, rfl, rfl⟩ := h; rfl) | (rename_i h; exact absurd h.2.2.2.1 List.not_mem_nil)
      rw [e9] at hR1
      refine w_letGo_24 hn hc (by omega) (l.length - 1 - l.idxOf f) (l.idxOf f) _ _ rfl (by omega) hR1 (fun hp' F' hF hR' => ?_)
      refine wp_aload_n (i := 0) dX0_letGo_52 rfl rfl ?_
      refine wr_cliR (j := rF n c) dX0_letGo_53 hR' f_X0_11 hn hc (Or.inl ⟨rfl, rfl⟩) ?_
      refine wp_iload_n (i := 1) dX0_letGo_56 rfl rfl ?_
      refine wr_aF (f := f) dX0_letGo_57 hR' rfl hn hc hf ?_
      refine wp_iconst (v := 0) dX0_letGo_58 rfl ?_
      refine wr_put (g := 2) (n := n) (a := c) (b := f) (k := 0) dX0_letGo_59 hR' (p_X0_55 rfl) (vs2 hn hc hf (by decide)) (by decide) (by decide) (okB rfl (by decide)) (fun hp2 hR1 => ?_)
      refine wp_aload_n (i := 0) dX0_letGo_62 rfl rfl ?_
      refine wr_cliR (j := rF n c) dX0_letGo_63 hR1 f_X0_11 hn hc (Or.inl ⟨rfl, rfl⟩) ?_
      refine wp_iload_n (i := 1) dX0_letGo_66 rfl rfl ?_
      refine wr_aF (f := f) dX0_letGo_67 hR1 rfl hn hc hf ?_
      refine wp_iconst (v := (-1)) dX0_letGo_68 rfl ?_
      refine wr_put (g := 2) (n := n) (a := c) (b := f) (k := 3) dX0_letGo_69 hR1 (p_X0_45 rfl) (vs2 hn hc hf (by decide)) (by decide) (by decide) (okI rfl) (fun hp4 hR3 => ?_)
      refine wp_ret (v := none) dX0_letGo_72 rfl ?_
      refine ⟨trivial, rfl, Or.inl ⟨hm, F', ?_, erase_Lst (fun k q h => o4 k q h) hm hF⟩⟩
      have e8 : sV (sV (cO M n c (nI (l.length - 1)) F' []) 2 n c f 0 0) 2 n c f 3 (-1) = cO M n c (nI (l.erase f).length) F' [f] := by
        rw [List.length_erase_of_mem hm]
        refine wV_eq (fun g9 n9 a9 b9 k9 => ?_) ⟨rfl, rfl, rfl⟩
        simp only [gV_sV, cO, gV_wV, List.mem_singleton, List.not_mem_nil]
        repeat' split
        all_goals first | rfl | (exfalso; omega) | (exfalso; simp_all)
      rw [e8] at hR3
      exact hR3
    · skip
      exact absurd c8 h8
  · rw [pOf, if_neg hm]
    refine wp_istore_n (i := 2) dX0_letGo_5 rfl (Nat.le_of_ble_eq_true rfl) ?_
    refine wp_iload_n (i := 2) dX0_letGo_6 rfl rfl ?_
    refine wp_iconst (v := (-1)) dX0_letGo_7 rfl ?_
    refine wp_icmp_ne (tgt := 12) dX0_letGo_8 (by decide) (fun c8 => ?_) (fun c8 => ?_)
    · skip
      exact absurd rfl c8
    · skip
      refine wp_ret (v := none) dX0_letGo_11 rfl ?_
      exact ⟨trivial, rfl, Or.inr ⟨hm, hR⟩⟩
/-- dirty, and not being sent -/
def dns (M : MS) (n c f : Nat) : Prop := ¬ gV M 2 n c f 4 = 0 ∧ gV M 2 n c f 7 = 0
/-- found so far -/
def fnd (M : MS) (n c : Nat) (x : Int32) (j : Nat) : Prop := (x = -1 ∧ ∀ f, j ≤ f → f < 12 → ¬ dns M n c f) ∨ ∃ f, f < 12 ∧ x = nI f ∧ dns M n c f
theorem w_longest_5 (hR : Rep hp M) (hn : n < 2) (hc : c < 4) {o3 : Nat} : ∀ (j : Nat) (x : Int32) (l3 : Option Value), j ≤ 12 → fnd M n c x j → (l3 = none ∨ l3 = some (.ref o3)) → WP L xs d mX0_longestDirty 5 [some (.ref (xi 1 n c 0)), some (.int x), some (.int (nI j - 1)), none] [] hp (fun v hp' => retOk mX0_longestDirty.2.2.2 v ∧ hp' = hp ∧ ∃ r, v = some (.int r) ∧ fnd M n c r 0) := by
  intro j
  induction j with
  | zero =>
    intro x l3 hj hF hl3
    refine wp_iload_n (i := 2) dX0_longestDirty_5 rfl rfl ?_
    refine wp_if_lt (tgt := 59) dX0_longestDirty_6 (by decide) (fun c6 => ?_) (fun c6 => absurd (by decide) c6)
    refine wp_iload_n (i := 1) dX0_longestDirty_59 rfl rfl ?_
    refine wp_ret (v := some (.int _)) dX0_longestDirty_60 rfl ?_
    exact ⟨trivial, rfl, _, rfl, hF⟩
  | succ i ih =>
    intro x l3 hj hF hl3
    rw [nI_pred]
    have hi : i < 12 := hj
    refine wp_iload_n (i := 2) dX0_longestDirty_5 rfl rfl ?_
    refine wp_if_lt (tgt := 59) dX0_longestDirty_6 (by decide) (fun c6 => ?_) (fun c6 => ?_)
    · skip
      exact absurd c6 (nI_pos (by omega))
    · skip
      refine wp_aload_n (i := 0) dX0_longestDirty_9 rfl rfl ?_
      refine wr_cliR (j := rF n c) dX0_longestDirty_10 hR f_X0_11 hn hc (Or.inl ⟨rfl, rfl⟩) ?_
      refine wp_iload_n (i := 2) dX0_longestDirty_13 rfl rfl ?_
      refine wr_aF (f := i) dX0_longestDirty_14 hR rfl hn hc (by omega) ?_
      refine wp_astore_n (i := 3) dX0_longestDirty_15 rfl (Nat.le_of_ble_eq_true rfl) ?_
      refine wp_aload_n (i := 3) dX0_longestDirty_16 rfl rfl ?_
      refine wr_get (g := 2) (n := n) (a := c) (b := i) (k := 4) dX0_longestDirty_17 hR f_X0_58 (vs2 hn hc (by omega) (by decide)) (by decide) (by decide) ?_
      refine wp_if_eq (tgt := 53) dX0_longestDirty_20 (by decide) (fun c20 => ?_) (fun c20 => ?_)
      · skip
        refine wp_iinc (v := nI i - 1) dX0_longestDirty_53 rfl (nI_dec _) ?_
        refine wp_goto (tgt := 5) dX0_longestDirty_56 (by decide) ?_
        refine WP.less (ls' := [some (.ref (xi 1 n c 0)), some (.int x), some (.int (nI i - 1)), none]) ?_ rfl (fun k v h => by
          match k, h with
          | 0, h => exact h
          | 1, h => exact h
          | 2, h => exact h
          | 3, h => cases h
          | k + 4, h => simp at h)
        exact ih x none (by omega) (by
          rcases hF with ⟨q1, q2⟩ | q
          · refine Or.inl ⟨q1, fun f h1 h2 h3 => ?_⟩
            rcases Nat.lt_or_ge i f with z | z
            · exact q2 f z h2 h3
            · have : f = i := by omega
              subst this
              exact h3.1 c20
          · exact Or.inr q) (Or.inl rfl)
      · skip
        refine wp_aload_n (i := 3) dX0_longestDirty_23 rfl rfl ?_
        refine wr_get (g := 2) (n := n) (a := c) (b := i) (k := 7) dX0_longestDirty_24 hR f_X0_42 (vs2 hn hc (by omega) (by decide)) (by decide) (by decide) ?_
        refine wp_if_ne (tgt := 53) dX0_longestDirty_27 (by decide) (fun c27 => ?_) (fun c27 => ?_)
        · skip
          refine wp_iinc (v := nI i - 1) dX0_longestDirty_53 rfl (nI_dec _) ?_
          refine wp_goto (tgt := 5) dX0_longestDirty_56 (by decide) ?_
          refine WP.less (ls' := [some (.ref (xi 1 n c 0)), some (.int x), some (.int (nI i - 1)), none]) ?_ rfl (fun k v h => by
            match k, h with
            | 0, h => exact h
            | 1, h => exact h
            | 2, h => exact h
            | 3, h => cases h
            | k + 4, h => simp at h)
          exact ih x none (by omega) (by
            rcases hF with ⟨q1, q2⟩ | q
            · refine Or.inl ⟨q1, fun f h1 h2 h3 => ?_⟩
              rcases Nat.lt_or_ge i f with z | z
              · exact q2 f z h2 h3
              · have : f = i := by omega
                subst this
                exact c27 h3.2
            · exact Or.inr q) (Or.inl rfl)
        · skip
          refine wp_iload_n (i := 1) dX0_longestDirty_30 rfl rfl ?_
          refine wp_iconst (v := (-1)) dX0_longestDirty_31 rfl ?_
          refine wp_icmp_eq (tgt := 51) dX0_longestDirty_32 (by decide) (fun c32 => ?_) (fun c32 => ?_)
          · skip
            refine wp_iload_n (i := 2) dX0_longestDirty_51 rfl rfl ?_
            refine wp_istore_n (i := 1) dX0_longestDirty_52 rfl (Nat.le_of_ble_eq_true rfl) ?_
            refine wp_iinc (v := nI i - 1) dX0_longestDirty_53 rfl (nI_dec _) ?_
            refine wp_goto (tgt := 5) dX0_longestDirty_56 (by decide) ?_
            refine WP.less (ls' := [some (.ref (xi 1 n c 0)), some (.int (nI i)), some (.int (nI i - 1)), none]) ?_ rfl (fun k v h => by
              match k, h with
              | 0, h => exact h
              | 1, h => exact h
              | 2, h => exact h
              | 3, h => cases h
              | k + 4, h => simp at h)
            exact ih (nI i) none (by omega) (Or.inr ⟨i, hi, rfl, c20, c27⟩) (Or.inl rfl)
          · skip
            obtain ⟨f9, hf9, e9, -⟩ := hF.resolve_left (fun q => c32 q.1)
            refine wp_aload_n (i := 3) dX0_longestDirty_35 rfl rfl ?_
            refine wr_get (g := 2) (n := n) (a := c) (b := i) (k := 5) dX0_longestDirty_36 hR f_X0_107 (vs2 hn hc (by omega) (by decide)) (by decide) (by decide) ?_
            refine wp_aload_n (i := 0) dX0_longestDirty_39 rfl rfl ?_
            refine wr_cliR (j := rF n c) dX0_longestDirty_40 hR f_X0_11 hn hc (Or.inl ⟨rfl, rfl⟩) ?_
            refine wp_iload_n (i := 1) dX0_longestDirty_43 rfl rfl ?_
            refine wr_aF (f := f9) dX0_longestDirty_44 hR e9 hn hc hf9 ?_
            refine wr_get (g := 2) (n := n) (a := c) (b := f9) (k := 5) dX0_longestDirty_45 hR f_X0_107 (vs2 hn hc hf9 (by decide)) (by decide) (by decide) ?_
            refine wp_icmp_gt (tgt := 53) dX0_longestDirty_48 (by decide) (fun c48 => ?_) (fun c48 => ?_)
            · skip
              refine wp_iinc (v := nI i - 1) dX0_longestDirty_53 rfl (nI_dec _) ?_
              refine wp_goto (tgt := 5) dX0_longestDirty_56 (by decide) ?_
              refine WP.less (ls' := [some (.ref (xi 1 n c 0)), some (.int x), some (.int (nI i - 1)), none]) ?_ rfl (fun k v h => by
                match k, h with
                | 0, h => exact h
                | 1, h => exact h
                | 2, h => exact h
                | 3, h => cases h
                | k + 4, h => simp at h)
              exact ih x none (by omega) (Or.inr (hF.resolve_left (fun q => c32 q.1))) (Or.inl rfl)
            · skip
              refine wp_iload_n (i := 2) dX0_longestDirty_51 rfl rfl ?_
              refine wp_istore_n (i := 1) dX0_longestDirty_52 rfl (Nat.le_of_ble_eq_true rfl) ?_
              refine wp_iinc (v := nI i - 1) dX0_longestDirty_53 rfl (nI_dec _) ?_
              refine wp_goto (tgt := 5) dX0_longestDirty_56 (by decide) ?_
              refine WP.less (ls' := [some (.ref (xi 1 n c 0)), some (.int (nI i)), some (.int (nI i - 1)), none]) ?_ rfl (fun k v h => by
                match k, h with
                | 0, h => exact h
                | 1, h => exact h
                | 2, h => exact h
                | 3, h => cases h
                | k + 4, h => simp at h)
              exact ih (nI i) none (by omega) (Or.inr ⟨i, hi, rfl, c20, c27⟩) (Or.inl rfl)
/-- a file that is dirty and not being sent, if there is one -/
theorem s_longest (hR : Rep hp M) (hn : n < 2) (hc : c < 4) : WM L xs d mX0_longestDirty [.ref (xi 1 n c 0)] hp (fun v hp' => hp' = hp ∧ ∃ r, v = some (.int r) ∧ fnd M n c r 0) := by
  refine WM.of [some (.ref _), none, none, none] (by decide) rfl (Nat.le_of_ble_eq_true rfl) ?_
  refine wp_iconst (v := (-1)) dX0_longestDirty_0 rfl ?_
  refine wp_istore_n (i := 1) dX0_longestDirty_1 rfl (Nat.le_of_ble_eq_true rfl) ?_
  refine wp_bipush (v := nI 11) dX0_longestDirty_2 (by decide) ?_
  refine wp_istore_n (i := 2) dX0_longestDirty_4 rfl (Nat.le_of_ble_eq_true rfl) ?_
  refine WP.less (ls' := [some (.ref (xi 1 n c 0)), some (.int (-1)), some (.int (nI 12 - 1)), none]) ?_ rfl (fun k v h => by
    match k, h with
    | 0, h => exact h
    | 1, h => exact h
    | 2, h => exact h
    | 3, h => cases h
    | k + 4, h => simp at h)
  exact w_longest_5 hR hn hc (o3 := 0) 12 (-1) none (by decide) (Or.inl ⟨rfl, fun f h1 h2 => absurd h2 (by omega)⟩) (Or.inl rfl)
theorem w_isClean_2 (hR : Rep hp M) (hn : n < 2) (hc : c < 4) : ∀ (m i : Nat), 12 - i = m → i ≤ 12 → WP L xs d mX0_isClean 2 [some (.ref (xi 1 n c 0)), some (.int (nI i))] [] hp (fun v hp' => retOk mX0_isClean.2.2.2 v ∧ hp' = hp ∧ ∃ r, v = some (.int r) ∧ (r = 0 ∨ r = 1)) := by
  intro m
  induction m using Nat.strongRecOn with
  | ind m ih =>
    intro i hm hi0
    subst hm
    refine wp_iload_n (i := 1) dX0_isClean_2 rfl rfl ?_
    refine wp_bipush (v := nI 12) dX0_isClean_3 (by decide) ?_
    refine wp_icmp_ge (tgt := 28) dX0_isClean_5 (by decide) (fun c5 => ?_) (fun c5 => ?_)
    · skip
      refine wp_iconst (v := 1) dX0_isClean_28 rfl ?_
      refine wp_ret (v := some (.int _)) dX0_isClean_29 rfl ?_
      exact ⟨by first | exact Or.inl rfl | exact Or.inr rfl, rfl, _, rfl, by first | exact Or.inl rfl | exact Or.inr rfl⟩
    · skip
      have hi : i < 12 := (nI_ltI (by omega) (by decide)).mp c5
      refine wp_aload_n (i := 0) dX0_isClean_8 rfl rfl ?_
      refine wr_cliR (j := rF n c) dX0_isClean_9 hR f_X0_11 hn hc (Or.inl ⟨rfl, rfl⟩) ?_
      refine wp_iload_n (i := 1) dX0_isClean_12 rfl rfl ?_
      refine wr_aF (f := i) dX0_isClean_13 hR rfl hn hc hi ?_
      refine wr_get (g := 2) (n := n) (a := c) (b := i) (k := 4) dX0_isClean_14 hR f_X0_58 (vs2 hn hc hi (by decide)) (by decide) (by decide) ?_
      refine wp_if_eq (tgt := 22) dX0_isClean_17 (by decide) (fun c17 => ?_) (fun c17 => ?_)
      · skip
        refine wp_iinc (v := nI (i + 1)) dX0_isClean_22 rfl (nI_1 _) ?_
        refine wp_goto (tgt := 2) dX0_isClean_25 (by decide) ?_
        exact ih (12 - (i + 1)) (by omega) (i + 1) rfl (by omega)
      · skip
        refine wp_iconst (v := 0) dX0_isClean_20 rfl ?_
        refine wp_ret (v := some (.int _)) dX0_isClean_21 rfl ?_
        exact ⟨by first | exact Or.inl rfl | exact Or.inr rfl, rfl, _, rfl, by first | exact Or.inl rfl | exact Or.inr rfl⟩
theorem s_isClean (hR : Rep hp M) (hn : n < 2) (hc : c < 4) : WM L xs d mX0_isClean [.ref (xi 1 n c 0)] hp (fun v hp' => hp' = hp ∧ ∃ r, v = some (.int r) ∧ (r = 0 ∨ r = 1)) := by
  refine WM.of [some (.ref _), none] (by decide) rfl (Nat.le_of_ble_eq_true rfl) ?_
  refine wp_iconst (v := 0) dX0_isClean_0 rfl ?_
  refine wp_istore_n (i := 1) dX0_isClean_1 rfl (Nat.le_of_ble_eq_true rfl) ?_
  exact w_isClean_2 hR hn hc 12 0 rfl (by decide)
def cTell (M : MS) (n c k : Nat) : Int32 := match k with
  | 0 => gV M 1 n c 0 2
  | 1 => gV M 1 n c 0 7
  | 2 => gV M 1 n c 0 8
  | 3 => gV M 1 n c 0 9
  | 4 => gV M 1 n c 0 10
  | 5 => gV M 1 n c 0 11
  | _ => if gV M 1 n c 0 6 = 0 then 0 else 1
theorem s_clTell (hR : Rep hp M) (hn : n < 2) (hc : c < 4) {k : Nat} (hk : k < 7) : WM L xs d mX0_tell [.ref (xi 1 n c 0), .int (nI k)] hp (fun v hp' => hp' = hp ∧ v = some (.int (cTell M n c k))) := by
  refine WM.of [some (.ref _), some (.int (nI k))] (by decide) rfl (Nat.le_of_ble_eq_true rfl) ?_
  rcases (show k = 0 ∨ k = 1 ∨ k = 2 ∨ k = 3 ∨ k = 4 ∨ k = 5 ∨ k = 6 by omega) with rfl | rfl | rfl | rfl | rfl | rfl | rfl
  · skip
    refine wp_iload_n (i := 1) dX0_tell_0 rfl rfl ?_
    refine wp_tabIn dX0_tell_1 (by decide) (by decide) (off := 39) (tgt := 40) (by decide) (by decide) ?_
    refine wp_aload_n (i := 0) dX0_tell_40 rfl rfl ?_
    refine wr_get (g := 1) (n := n) (a := c) (b := 0) (k := 2) dX0_tell_41 hR f_X0_52 (vs1 hn hc (by decide)) (by decide) (by decide) ?_
    refine wp_ret (v := some (.int _)) dX0_tell_44 rfl ?_
    refine ⟨trivial, rfl, ?_⟩
    first | rfl | (unfold cTell; simp only [*, if_true, if_false])
  · skip
    refine wp_iload_n (i := 1) dX0_tell_0 rfl rfl ?_
    refine wp_tabIn dX0_tell_1 (by decide) (by decide) (off := 44) (tgt := 45) (by decide) (by decide) ?_
    refine wp_aload_n (i := 0) dX0_tell_45 rfl rfl ?_
    refine wr_get (g := 1) (n := n) (a := c) (b := 0) (k := 7) dX0_tell_46 hR f_X0_110 (vs1 hn hc (by decide)) (by decide) (by decide) ?_
    refine wp_ret (v := some (.int _)) dX0_tell_49 rfl ?_
    refine ⟨trivial, rfl, ?_⟩
    first | rfl | (unfold cTell; simp only [*, if_true, if_false])
  · skip
    refine wp_iload_n (i := 1) dX0_tell_0 rfl rfl ?_
    refine wp_tabIn dX0_tell_1 (by decide) (by decide) (off := 49) (tgt := 50) (by decide) (by decide) ?_
    refine wp_aload_n (i := 0) dX0_tell_50 rfl rfl ?_
    refine wr_get (g := 1) (n := n) (a := c) (b := 0) (k := 8) dX0_tell_51 hR f_X0_113 (vs1 hn hc (by decide)) (by decide) (by decide) ?_
    refine wp_ret (v := some (.int _)) dX0_tell_54 rfl ?_
    refine ⟨trivial, rfl, ?_⟩
    first | rfl | (unfold cTell; simp only [*, if_true, if_false])
  · skip
    refine wp_iload_n (i := 1) dX0_tell_0 rfl rfl ?_
    refine wp_tabIn dX0_tell_1 (by decide) (by decide) (off := 54) (tgt := 55) (by decide) (by decide) ?_
    refine wp_aload_n (i := 0) dX0_tell_55 rfl rfl ?_
    refine wr_get (g := 1) (n := n) (a := c) (b := 0) (k := 9) dX0_tell_56 hR f_X0_78 (vs1 hn hc (by decide)) (by decide) (by decide) ?_
    refine wp_ret (v := some (.int _)) dX0_tell_59 rfl ?_
    refine ⟨trivial, rfl, ?_⟩
    first | rfl | (unfold cTell; simp only [*, if_true, if_false])
  · skip
    refine wp_iload_n (i := 1) dX0_tell_0 rfl rfl ?_
    refine wp_tabIn dX0_tell_1 (by decide) (by decide) (off := 59) (tgt := 60) (by decide) (by decide) ?_
    refine wp_aload_n (i := 0) dX0_tell_60 rfl rfl ?_
    refine wr_get (g := 1) (n := n) (a := c) (b := 0) (k := 10) dX0_tell_61 hR f_X0_75 (vs1 hn hc (by decide)) (by decide) (by decide) ?_
    refine wp_ret (v := some (.int _)) dX0_tell_64 rfl ?_
    refine ⟨trivial, rfl, ?_⟩
    first | rfl | (unfold cTell; simp only [*, if_true, if_false])
  · skip
    refine wp_iload_n (i := 1) dX0_tell_0 rfl rfl ?_
    refine wp_tabIn dX0_tell_1 (by decide) (by decide) (off := 64) (tgt := 65) (by decide) (by decide) ?_
    refine wp_aload_n (i := 0) dX0_tell_65 rfl rfl ?_
    refine wr_get (g := 1) (n := n) (a := c) (b := 0) (k := 11) dX0_tell_66 hR f_X0_116 (vs1 hn hc (by decide)) (by decide) (by decide) ?_
    refine wp_ret (v := some (.int _)) dX0_tell_69 rfl ?_
    refine ⟨trivial, rfl, ?_⟩
    first | rfl | (unfold cTell; simp only [*, if_true, if_false])
  · skip
    refine wp_iload_n (i := 1) dX0_tell_0 rfl rfl ?_
    refine wp_tabOut dX0_tell_1 (tgt := 70) (by decide) (by decide) ?_
    refine wp_aload_n (i := 0) dX0_tell_70 rfl rfl ?_
    refine wr_get (g := 1) (n := n) (a := c) (b := 0) (k := 6) dX0_tell_71 hR f_X0_35 (vs1 hn hc (by decide)) (by decide) (by decide) ?_
    refine wp_if_eq (tgt := 81) dX0_tell_74 (by decide) (fun c74 => ?_) (fun c74 => ?_)
    · skip
      refine wp_iconst (v := 0) dX0_tell_81 rfl ?_
      refine wp_ret (v := some (.int _)) dX0_tell_82 rfl ?_
      refine ⟨trivial, rfl, ?_⟩
      first | rfl | (unfold cTell; simp only [*, if_true, if_false])
    · skip
      refine wp_iconst (v := 1) dX0_tell_77 rfl ?_
      refine wp_goto (tgt := 82) dX0_tell_78 (by decide) ?_
      refine wp_ret (v := some (.int _)) dX0_tell_82 rfl ?_
      refine ⟨trivial, rfl, ?_⟩
      first | rfl | (unfold cTell; simp only [*, if_true, if_false])
end CLIENT3
end
section
/-! ===== Client, IV: room is made ===== -/
/-- a client as it should be: what it has stands in its order, once each; what is dirty it has -/
def CI (M : MS) (n c : Nat) (l : List Nat) : Prop := Ord M n c l ∧ l.Nodup ∧ l.length ≤ 6 ∧ (∀ f, f < 12 → (¬ gV M 2 n c f 0 = 0 ↔ f ∈ l)) ∧ (∀ f, f < 12 → ¬ gV M 2 n c f 4 = 0 → f ∈ l)
/-- l' is what is left of l when z went, all of it clean -/
def Left (M : MS) (n c : Nat) (l l' z : List Nat) : Prop := (∀ f, f ∈ l' ↔ f ∈ l ∧ f ∉ z) ∧ (∀ f, f ∈ z → f ∈ l ∧ gV M 2 n c f 4 = 0) ∧ l'.Nodup ∧ l'.length ≤ l.length
section CLIENT4
variable {L : Nat} {xs : Nat → Int32} {d : Nat} {hp : AH} {M : MS} {n c : Nat} {Q : Option Value → AH → Prop}
theorem Left.erase {l l' z : List Nat} {f : Nat} (h : Left M n c l l' z) (hf : f ∈ l') (hd : gV M 2 n c f 4 = 0) : Left M n c l (l'.erase f) (f :: z) := by
  obtain ⟨h1, h2, h3, h4⟩ := h
  refine ⟨fun g => ?_, fun g hg => ?_, h3.erase f, by rw [List.length_erase_of_mem hf]; omega⟩
  · rw [h3.mem_erase_iff, h1, List.mem_cons]
    constructor
    · rintro ⟨a, b, c⟩; exact ⟨b, fun q => q.elim a c⟩
    · rintro ⟨a, b⟩; exact ⟨fun q => b (Or.inl q), a, fun q => b (Or.inr q)⟩
  · rcases List.mem_cons.mp hg with rfl | hg
    · exact ⟨((h1 g).mp hf).1, hd⟩
    · exact h2 g hg
theorem w_mr_49 (hn : n < 2) (hc : c < 4) {r : Nat} (hr : r < 2 ^ 31) {l l' z : List Nat} {F : Nat → Int32} {x2 x3 : Option Value} (hl : l'.length ≤ 12) (hR : Rep hp (cO M n c (nI l'.length) F z)) (hF : Lst F l') (hL : Left M n c l l' z) :
    WP L xs d mX0_makesRoom 49 [some (.ref (xi 1 n c 0)), some (.int (nI r)), x2, x3] [] hp (fun v hp' => retOk mX0_makesRoom.2.2.2 v ∧ ∃ l' F z, Rep hp' (cO M n c (nI l'.length) F z) ∧ Lst F l' ∧ Left M n c l l' z ∧ v = some (.int (bI (l'.length < r)))) := by
  refine wp_aload_n (i := 0) dX0_makesRoom_49 rfl rfl ?_
  refine wr_get (g := 1) (n := n) (a := c) (b := 0) (k := 2) dX0_makesRoom_50 hR f_X0_52 (vs1 hn hc (by decide)) (by decide) (by decide) ?_
  refine wp_iload_n (i := 1) dX0_makesRoom_53 rfl rfl ?_
  refine wp_icmp_ge (tgt := 61) dX0_makesRoom_54 (by decide) (fun c54 => ?_) (fun c54 => ?_)
  · skip
    refine wp_iconst (v := 0) dX0_makesRoom_61 rfl ?_
    refine wp_ret (v := some (.int _)) dX0_makesRoom_62 rfl ?_
    rw [cO_cnt, nI_ltI (by omega) hr] at c54
    refine ⟨by first | exact Or.inl rfl | exact Or.inr rfl, l', F, z, hR, hF, hL, ?_⟩
    first | rw [bI_t c54] | rw [bI_f c54]
  · skip
    refine wp_iconst (v := 1) dX0_makesRoom_57 rfl ?_
    refine wp_goto (tgt := 62) dX0_makesRoom_58 (by decide) ?_
    refine wp_ret (v := some (.int _)) dX0_makesRoom_62 rfl ?_
    rw [cO_cnt, nI_ltI (by omega) hr] at c54
    refine ⟨by first | exact Or.inl rfl | exact Or.inr rfl, l', F, z, hR, hF, hL, ?_⟩
    first | rw [bI_t c54] | rw [bI_f c54]
theorem w_mr_7 (hn : n < 2) (hc : c < 4) {r : Nat} (hr : r < 2 ^ 31) {l : List Nat} (hl : l.length ≤ 12) (hl12 : ∀ f, f ∈ l → f < 12) : ∀ (j : Nat) (l' z : List Nat) (F : Nat → Int32) (hp : AH), j ≤ l'.length → Rep hp (cO M n c (nI l'.length) F z) → Lst F l' → Left M n c l l' z →
    WP L xs (d + 2) mX0_makesRoom 7 [some (.ref (xi 1 n c 0)), some (.int (nI r)), some (.int (nI j - 1)), none] [] hp (fun v hp' => retOk mX0_makesRoom.2.2.2 v ∧ ∃ l' F z, Rep hp' (cO M n c (nI l'.length) F z) ∧ Lst F l' ∧ Left M n c l l' z ∧ v = some (.int (bI (l'.length < r)))) := by
  intro j
  induction j with
  | zero =>
    intro l' z F hp hj hR hF hL
    refine wp_iload_n (i := 2) dX0_makesRoom_7 rfl rfl ?_
    refine wp_if_lt (tgt := 49) dX0_makesRoom_8 (by decide) (fun c8 => ?_) (fun c8 => absurd (by decide) c8)
    exact w_mr_49 hn hc hr (Nat.le_trans hL.2.2.2 hl) hR hF hL
  | succ i ih =>
    intro l' z F hp hj hR hF hL
    have hl' : l'.length ≤ 12 := Nat.le_trans hL.2.2.2 hl
    have hget : l'[i]? = some l'[i] := List.getElem?_eq_getElem hj
    have hmem : l'[i] ∈ l' := List.getElem_mem hj
    have hf9 : l'[i] < 12 := hl12 _ ((hL.1 _).mp hmem).1
    have hz9 : l'[i] ∉ z := ((hL.1 _).mp hmem).2
    have hO := Ord.of_cO (M := M) (n := n) (c := c) (z := z) hl' (fun f h => hl12 f ((hL.1 f).mp h).1) hF
    rw [nI_pred]
    refine wp_iload_n (i := 2) dX0_makesRoom_7 rfl rfl ?_
    refine wp_if_lt (tgt := 49) dX0_makesRoom_8 (by decide) (fun c8 => ?_) (fun c8 => ?_)
    · skip
      exact absurd c8 (nI_pos (by omega))
    · skip
      refine wp_aload_n (i := 0) dX0_makesRoom_11 rfl rfl ?_
      refine wr_get (g := 1) (n := n) (a := c) (b := 0) (k := 2) dX0_makesRoom_12 hR f_X0_52 (vs1 hn hc (by decide)) (by decide) (by decide) ?_
      refine wp_iload_n (i := 1) dX0_makesRoom_15 rfl rfl ?_
      refine wp_icmp_lt (tgt := 49) dX0_makesRoom_16 (by decide) (fun c16 => ?_) (fun c16 => ?_)
      · skip
        exact w_mr_49 hn hc hr hl' hR hF hL
      · skip
        refine wp_aload_n (i := 0) dX0_makesRoom_19 rfl rfl ?_
        refine wr_cliR (j := xi 3 n c 0) dX0_makesRoom_20 hR f_X0_17 hn hc (Or.inr (Or.inl ⟨rfl, rfl⟩)) ?_
        refine wp_iload_n (i := 2) dX0_makesRoom_23 rfl rfl ?_
        refine wr_ordG (k := i) dX0_makesRoom_24 hR rfl (vs3 hn hc (by omega)) ?_
        rw [cO_ord, hF i _ hget]
        refine wp_istore_n (i := 3) dX0_makesRoom_25 rfl (Nat.le_of_ble_eq_true rfl) ?_
        refine wp_aload_n (i := 0) dX0_makesRoom_26 rfl rfl ?_
        refine wr_cliR (j := rF n c) dX0_makesRoom_27 hR f_X0_11 hn hc (Or.inl ⟨rfl, rfl⟩) ?_
        refine wp_iload_n (i := 3) dX0_makesRoom_30 rfl rfl ?_
        refine wr_aF (f := l'[i]) dX0_makesRoom_31 hR rfl hn hc hf9 ?_
        refine wr_get (g := 2) (n := n) (a := c) (b := l'[i]) (k := 4) dX0_makesRoom_32 hR f_X0_58 (vs2 hn hc hf9 (by decide)) (by decide) (by decide) ?_
        refine wp_if_ne (tgt := 43) dX0_makesRoom_35 (by decide) (fun c35 => ?_) (fun c35 => ?_)
        · skip
          refine wp_iinc (v := nI i - 1) dX0_makesRoom_43 rfl (nI_dec _) ?_
          refine wp_goto (tgt := 7) dX0_makesRoom_46 (by decide) ?_
          refine WP.less (ls' := [some (.ref (xi 1 n c 0)), some (.int (nI r)), some (.int (nI i - 1)), none]) ?_ rfl (fun k v h => by
            match k, h with
            | 0, h => exact h
            | 1, h => exact h
            | 2, h => exact h
            | 3, h => cases h
            | k + 4, h => simp at h)
          exact ih l' z F _ (by omega) hR hF hL
        · skip
          refine wp_aload_n (i := 0) dX0_makesRoom_38 rfl rfl ?_
          refine wp_iload_n (i := 3) dX0_makesRoom_39 rfl rfl ?_
          rw [cO_he _ _ _ _ _ _ _ _ (Or.inr ⟨by decide, by decide⟩)] at c35
          refine wp_callV (N := mX0_letGo) dX0_makesRoom_40 l_X0_72 v_X0_letGo rfl (hR.oo (vs1 hn hc (k := 2) (by decide)) (by decide)) rfl (by decide) (s_letGo hR hn hc hO hf9) (fun v hp1 hq => ?_)
          obtain ⟨rfl, hq⟩ := hq
          obtain ⟨-, F2, hR2, hF2⟩ := hq.resolve_right (fun q => q.1 hmem)
          rw [cO_cO] at hR2
          refine wp_iinc (v := nI i - 1) dX0_makesRoom_43 rfl (nI_dec _) ?_
          refine wp_goto (tgt := 7) dX0_makesRoom_46 (by decide) ?_
          refine WP.less (ls' := [some (.ref (xi 1 n c 0)), some (.int (nI r)), some (.int (nI i - 1)), none]) ?_ rfl (fun k v h => by
            match k, h with
            | 0, h => exact h
            | 1, h => exact h
            | 2, h => exact h
            | 3, h => cases h
            | k + 4, h => simp at h)
          exact ih (l'.erase l'[i]) (l'[i] :: z) F2 _ (by rw [List.length_erase_of_mem hmem]; omega) hR2 hF2 (hL.erase hmem c35)
/-- room is made: clean files go, the one used the longest time ago first -/
theorem s_makesRoom (hR : Rep hp M) (hn : n < 2) (hc : c < 4) {l : List Nat} (hI : CI M n c l) {r : Nat} (hr : r < 2 ^ 31) : WM L xs (d + 2) mX0_makesRoom [.ref (xi 1 n c 0), .int (nI r)] hp (fun v hp' => ∃ l' F z, Rep hp' (cO M n c (nI l'.length) F z) ∧ Lst F l' ∧ Left M n c l l' z ∧ v = some (.int (bI (l'.length < r)))) := by
  refine WM.of [some (.ref _), some (.int (nI r)), none, none] (by decide) rfl (Nat.le_of_ble_eq_true rfl) ?_
  refine wp_aload_n (i := 0) dX0_makesRoom_0 rfl rfl ?_
  refine wr_get (g := 1) (n := n) (a := c) (b := 0) (k := 2) dX0_makesRoom_1 hR f_X0_52 (vs1 hn hc (by decide)) (by decide) (by decide) ?_
  refine wp_iconst (v := 1) dX0_makesRoom_4 rfl ?_
  refine wp_isub dX0_makesRoom_5 ?_
  refine wp_istore_n (i := 2) dX0_makesRoom_6 rfl (Nat.le_of_ble_eq_true rfl) ?_
  rw [hI.1.1]
  have hR0 := hI.1.id hR
  exact w_mr_7 hn hc hr hI.1.2.1 hI.1.2.2.1 l.length l [] _ _ (Nat.le_refl _) hR0 (fun k q h => hI.1.2.2.2 k q h) ⟨fun f => ⟨fun h => ⟨h, List.not_mem_nil⟩, fun h => h.1⟩, fun f h => absurd h List.not_mem_nil, hI.2.1, Nat.le_refl _⟩
end CLIENT4
end
section
theorem sV_ne {M : MS} {g n a b k : Nat} {v : Int32} {g' n' a' b' k' : Nat} (h : ¬ (g' = g ∧ n' = n ∧ a' = a ∧ b' = b ∧ k' = k)) : gV (sV M g n a b k v) g' n' a' b' k' = gV M g' n' a' b' k' := if_neg h
/-! ===== Client, V: what comes to a client ===== -/
/-- nothing outside the client's own files and order has changed -/
def Oth (M M' : MS) (n c : Nat) : Prop := (∀ g n' a b k, ¬ (n' = n ∧ a = c ∧ (g = 2 ∨ g = 3 ∨ (g = 1 ∧ b = 0 ∧ k = 2))) → gV M' g n' a b k = gV M g n' a b k) ∧ M'.1 = M.1 ∧ M'.2.1 = M.2.1 ∧ M'.2.2.2 = M.2.2.2
/-- contents and versions of a client's files are what they were, or x and w -/
def HR (M M' : MS) (n c f : Nat) (x w : Int32) : Prop := (∀ g, gV M' 2 n c g 1 = gV M 2 n c g 1 ∨ (g = f ∧ gV M' 2 n c g 1 = x)) ∧ (∀ g, gV M' 2 n c g 2 = gV M 2 n c g 2 ∨ (g = f ∧ gV M' 2 n c g 2 = w)) ∧ (∀ g, g ≠ f → gV M' 2 n c g 6 = gV M 2 n c g 6 ∧ gV M' 2 n c g 7 = gV M 2 n c g 7)
theorem Oth.rfl' (M : MS) (n c : Nat) : Oth M M n c := ⟨fun _ _ _ _ _ _ => rfl, rfl, rfl, rfl⟩
theorem Oth.trans {M M' M'' : MS} {n c : Nat} (h : Oth M M' n c) (h' : Oth M' M'' n c) : Oth M M'' n c := ⟨fun g n' a b k q => (h'.1 g n' a b k q).trans (h.1 g n' a b k q), h'.2.1.trans h.2.1, h'.2.2.1.trans h.2.2.1, h'.2.2.2.trans h.2.2.2⟩
theorem Oth.sv (M : MS) (n c f k : Nat) (v : Int32) : Oth M (sV M 2 n c f k v) n c := ⟨fun g n' a b k' q => by rw [gV_sV, if_neg]; rintro ⟨rfl, rfl, rfl, -, -⟩; exact q ⟨rfl, rfl, Or.inl rfl⟩, rfl, rfl, rfl⟩
theorem Oth.co (M : MS) (n c : Nat) (cnt : Int32) (F : Nat → Int32) (z : List Nat) : Oth M (cO M n c cnt F z) n c := ⟨fun g n' a b k' q => by
  unfold cO
  rw [gV_wV, if_neg (by omega), if_neg (by omega), if_neg (by omega), if_neg (by omega)], rfl, rfl, rfl⟩
theorem Oth.given (M : MS) (n c f : Nat) (x w u : Int32) : Oth M (mGiven M n c f x w u) n c :=
  ((((Oth.sv M n c f 0 1).trans (Oth.sv _ n c f 1 x)).trans (Oth.sv _ n c f 2 w)).trans (Oth.sv _ n c f 3 u)).trans (Oth.sv _ n c f 4 0)
theorem given_get (M : MS) (n c f : Nat) (x w u : Int32) (g k : Nat) : gV (mGiven M n c f x w u) 2 n c g k = if g = f then (match k with | 0 => 1 | 1 => x | 2 => w | 3 => u | 4 => 0 | _ => gV M 2 n c g k) else gV M 2 n c g k := by
  unfold mGiven
  simp only [gV_sV]
  by_cases h : g = f
  · subst h
    rw [if_pos rfl]
    match k with
    | 0 => simp
    | 1 => simp
    | 2 => simp
    | 3 => simp
    | 4 => simp
    | k + 5 => simp
  · rw [if_neg h, if_neg (by omega), if_neg (by omega), if_neg (by omega), if_neg (by omega), if_neg (by omega)]
theorem Ord.oth {M M' : MS} {n c : Nat} {l : List Nat} (h : Ord M n c l) (h1 : gV M' 1 n c 0 2 = gV M 1 n c 0 2) (h2 : ∀ k, gV M' 3 n c 0 k = gV M 3 n c 0 k) : Ord M' n c l :=
  ⟨h1.trans h.1, h.2.1, h.2.2.1, fun k f q => (h2 k).trans (h.2.2.2 k f q)⟩
theorem CI.sv {M : MS} {n c : Nat} {l : List Nat} (h : CI M n c l) {f k : Nat} (v : Int32) (hk : k ≠ 0 ∧ k ≠ 4) : CI (sV M 2 n c f k v) n c l := by
  obtain ⟨h1, h2, h3, h4, h5⟩ := h
  refine ⟨h1.oth (sV_ne (by omega)) (fun k' => sV_ne (by omega)), h2, h3, fun g hg => ?_, fun g hg => ?_⟩
  · rw [gV_sV, if_neg (by omega)]; exact h4 g hg
  · rw [gV_sV, if_neg (by omega)]; exact h5 g hg
theorem CI.left {M : MS} {n c : Nat} {l l' z : List Nat} {F : Nat → Int32} (h : CI M n c l) (hL : Left M n c l l' z) (hF : Lst F l') : CI (cO M n c (nI l'.length) F z) n c l' := by
  obtain ⟨h1, h2, h3, h4, h5⟩ := h
  obtain ⟨k1, k2, k3, k4⟩ := hL
  refine ⟨Ord.of_cO (Nat.le_trans k4 h1.2.1) (fun f hf => h1.2.2.1 f ((k1 f).mp hf).1) hF, k3, by omega, fun f hf => ?_, fun f hf hd => ?_⟩
  · by_cases hz : f ∈ z
    · have e : gV (cO M n c (nI l'.length) F z) 2 n c f 0 = 0 := by
        unfold cO
        rw [gV_wV, if_neg (by omega), if_neg (by omega), if_pos ⟨rfl, rfl, rfl, hz, rfl⟩]
      rw [e, k1]
      exact ⟨fun q => absurd rfl q, fun q => absurd hz q.2⟩
    · rw [cO_he _ _ _ _ _ _ _ _ (Or.inl hz), h4 f hf, k1]
      exact ⟨fun q => ⟨q, hz⟩, fun q => q.1⟩
  · rw [cO_he _ _ _ _ _ _ _ _ (Or.inr ⟨by decide, by decide⟩)] at hd
    exact (k1 f).mpr ⟨h5 f hf hd, fun hz => hd (k2 f hz).2⟩
theorem mem_useL {l : List Nat} {f g : Nat} (hn : l.Nodup) : g ∈ useL l f ↔ g = f ∨ g ∈ l := by
  unfold useL
  rw [List.mem_cons, hn.mem_erase_iff]
  constructor
  · rintro (h | h); exact Or.inl h; exact Or.inr h.2
  · rintro (h | h)
    · exact Or.inl h
    · by_cases hg : g = f
      · exact Or.inl hg
      · exact Or.inr ⟨hg, h⟩
theorem useL_nodup {l : List Nat} {f : Nat} (hn : l.Nodup) : (useL l f).Nodup := by
  unfold useL
  rw [List.nodup_cons]
  exact ⟨fun h => (hn.mem_erase_iff.mp h).1 rfl, hn.erase f⟩
/-- given and used -/
theorem CI.use {M : MS} {n c : Nat} {l : List Nat} {F : Nat → Int32} (h1 : Ord M n c l) (h2 : l.Nodup) {f : Nat} (hf : f < 12) (hl : (useL l f).length ≤ 6) (h4 : ∀ g, g < 12 → (¬ gV M 2 n c g 0 = 0 ↔ g = f ∨ g ∈ l)) (h5 : ∀ g, g < 12 → ¬ gV M 2 n c g 4 = 0 → g = f ∨ g ∈ l) (hF : Lst F (useL l f)) : CI (cO M n c (nI (useL l f).length) F []) n c (useL l f) := by
  refine ⟨Ord.of_cO (by omega) (fun g hg => ?_) hF, useL_nodup h2, hl, fun g hg => ?_, fun g hg hd => ?_⟩
  · rcases (mem_useL h2).mp hg with rfl | q
    · exact hf
    · exact h1.2.2.1 g q
  · rw [cO_he _ _ _ _ _ _ _ _ (Or.inl List.not_mem_nil), mem_useL h2]; exact h4 g hg
  · rw [cO_he _ _ _ _ _ _ _ _ (Or.inl List.not_mem_nil)] at hd
    exact (mem_useL h2).mpr (h5 g hg hd)
section CLIENT5
variable {L : Nat} {xs : Nat → Int32} {d : Nat} {hp : AH} {M : MS} {n c : Nat} {Q : Option Value → AH → Prop}
theorem HR.co (M : MS) (n c f : Nat) (x w : Int32) (cnt : Int32) (F : Nat → Int32) (z : List Nat) : HR M (cO M n c cnt F z) n c f x w :=
  ⟨fun g => Or.inl (cO_he _ _ _ _ _ _ _ _ (Or.inr ⟨by decide, by decide⟩)), fun g => Or.inl (cO_he _ _ _ _ _ _ _ _ (Or.inr ⟨by decide, by decide⟩)), fun g _ => ⟨cO_he _ _ _ _ _ _ _ _ (Or.inr ⟨by decide, by decide⟩), cO_he _ _ _ _ _ _ _ _ (Or.inr ⟨by decide, by decide⟩)⟩⟩
theorem HR.given (M : MS) (n c f : Nat) (x w u : Int32) : HR M (mGiven M n c f x w u) n c f x w := by
  refine ⟨fun g => ?_, fun g => ?_, fun g hg => ⟨by rw [given_get, if_neg hg], by rw [given_get, if_neg hg]⟩⟩
  · rw [given_get]
    by_cases h : g = f
    · rw [if_pos h]; exact Or.inr ⟨h, rfl⟩
    · rw [if_neg h]; exact Or.inl rfl
  · rw [given_get]
    by_cases h : g = f
    · rw [if_pos h]; exact Or.inr ⟨h, rfl⟩
    · rw [if_neg h]; exact Or.inl rfl
theorem HR.trans {M M' M'' : MS} {n c f : Nat} {x w : Int32} (h : HR M M' n c f x w) (h' : HR M' M'' n c f x w) : HR M M'' n c f x w := by
  refine ⟨fun g => ?_, fun g => ?_, fun g hg => ⟨(h'.2.2 g hg).1.trans (h.2.2 g hg).1, (h'.2.2 g hg).2.trans (h.2.2 g hg).2⟩⟩
  · rcases h'.1 g with q | q
    · rw [q]; exact h.1 g
    · exact Or.inr q
  · rcases h'.2.1 g with q | q
    · rw [q]; exact h.2.1 g
    · exact Or.inr q
theorem HR.sv (M : MS) (n c f k : Nat) (x w v : Int32) (hk : k ≠ 1 ∧ k ≠ 2) : HR M (sV M 2 n c f k v) n c f x w :=
  ⟨fun g => Or.inl (sV_ne (by omega)), fun g => Or.inl (sV_ne (by omega)), fun g hg => ⟨sV_ne (fun q => hg q.2.2.2.1), sV_ne (fun q => hg q.2.2.2.1)⟩⟩

/-- what a given file leaves behind at its client -/
def GvR (M M' : MS) (n c f : Nat) (x w : Int32) : Prop := (∃ l', CI M' n c l') ∧ Oth M M' n c ∧ HR M M' n c f x w ∧ gV M' 2 n c f 6 = 0 ∧ gV M' 2 n c f 7 = gV M 2 n c f 7
theorem GvR.skip {M : MS} {n c f : Nat} {x w : Int32} {l l' z : List Nat} {F : Nat → Int32} (hI : CI M n c l) (hL : Left (sV M 2 n c f 6 0) n c l l' z) (hF : Lst F l') : GvR M (cO (sV M 2 n c f 6 0) n c (nI l'.length) F z) n c f x w :=
  ⟨⟨l', (hI.sv 0 (by decide)).left hL hF⟩, (Oth.sv M n c f 6 0).trans (Oth.co _ _ _ _ _ _), (HR.sv M n c f 6 x w 0 (by decide)).trans (HR.co _ _ _ _ _ _ _ _ _), by rw [cO_he _ _ _ _ _ _ _ _ (Or.inr ⟨by decide, by decide⟩)]; exact sV_self _ _ _ _ _ _ _, by rw [cO_he _ _ _ _ _ _ _ _ (Or.inr ⟨by decide, by decide⟩)]; exact sV_ne (by omega)⟩
theorem GvR.given {M M0 : MS} {n c f : Nat} {x w u : Int32} {l0 : List Nat} {F : Nat → Int32} (hf : f < 12) (hO : Oth M M0 n c) (hH : HR M M0 n c f x w) (h6 : gV M0 2 n c f 6 = 0) (h7 : gV M0 2 n c f 7 = gV M 2 n c f 7) (hI : CI M0 n c l0) (hl : (useL l0 f).length ≤ 6) (hF : Lst F (useL l0 f)) : GvR M (cO (mGiven M0 n c f x w u) n c (nI (useL l0 f).length) F []) n c f x w := by
  obtain ⟨i1, i2, i3, i4, i5⟩ := hI
  refine ⟨⟨useL l0 f, CI.use (i1.oth ?_ (fun k => ?_)) i2 hf hl (fun g hg => ?_) (fun g hg hd => ?_) hF⟩, (hO.trans (Oth.given M0 n c f x w u)).trans (Oth.co _ _ _ _ _ _), (hH.trans (HR.given M0 n c f x w u)).trans (HR.co _ _ _ _ _ _ _ _ _), ?_, ?_⟩
  · unfold mGiven; simp only [gV_sV]; rw [if_neg (by omega), if_neg (by omega), if_neg (by omega), if_neg (by omega), if_neg (by omega)]
  · unfold mGiven; simp only [gV_sV]; rw [if_neg (by omega), if_neg (by omega), if_neg (by omega), if_neg (by omega), if_neg (by omega)]
  · rw [given_get]
    by_cases h : g = f
    · rw [if_pos h]; exact ⟨fun _ => Or.inl h, fun _ q => absurd q (show ¬ (1 : Int32) = 0 by decide)⟩
    · rw [if_neg h, i4 g hg]; exact ⟨fun q => Or.inr q, fun q => q.resolve_left h⟩
  · rw [given_get] at hd
    by_cases h : g = f
    · exact Or.inl h
    · rw [if_neg h] at hd; exact Or.inr (i5 g hg hd)
  · rw [cO_he _ _ _ _ _ _ _ _ (Or.inr ⟨by decide, by decide⟩), given_get, if_pos rfl]; exact h6
  · rw [cO_he _ _ _ _ _ _ _ _ (Or.inr ⟨by decide, by decide⟩), given_get, if_pos rfl]; exact h7
/-- a file is given -/
theorem s_takeGiven (hR : Rep hp M) (hn : n < 2) (hc : c < 4) {l : List Nat} (hI : CI M n c l) {f : Nat} (hf : f < 12) (x w u : Int32) {r : Nat} (hr : r ≤ 6) : WM L xs (d + 3) mX0_takeGiven [.ref (xi 1 n c 0), .int (nI f), .int x, .int w, .int u, .int (nI r)] hp (fun v hp' => v = none ∧ ∃ M', Rep hp' M' ∧ GvR M M' n c f x w) := by
  refine WM.of [some (.ref _), some (.int (nI f)), some (.int x), some (.int w), some (.int u), some (.int (nI r)), none] (by decide) rfl (Nat.le_of_ble_eq_true rfl) ?_
  refine wp_aload_n (i := 0) dX0_takeGiven_0 rfl rfl ?_
  refine wr_cliR (j := rF n c) dX0_takeGiven_1 hR f_X0_11 hn hc (Or.inl ⟨rfl, rfl⟩) ?_
  refine wp_iload_n (i := 1) dX0_takeGiven_4 rfl rfl ?_
  refine wr_aF (f := f) dX0_takeGiven_5 hR rfl hn hc hf ?_
  refine wp_astore dX0_takeGiven_6 (Nat.le_of_ble_eq_true rfl) ?_
  refine wp_aload dX0_takeGiven_8 rfl ?_
  refine wp_iconst (v := 0) dX0_takeGiven_10 rfl ?_
  refine wr_put (g := 2) (n := n) (a := c) (b := f) (k := 6) dX0_takeGiven_11 hR (p_X0_39 rfl) (vs2 hn hc hf (by decide)) (by decide) (by decide) (okB rfl (by decide)) (fun hp2 hR1 => ?_)
  refine wp_aload dX0_takeGiven_14 rfl ?_
  refine wr_get (g := 2) (n := n) (a := c) (b := f) (k := 4) dX0_takeGiven_16 hR1 f_X0_58 (vs2 hn hc hf (by decide)) (by decide) (by decide) ?_
  refine wp_if_ne (tgt := 39) dX0_takeGiven_19 (by decide) (fun c19 => ?_) (fun c19 => ?_)
  · skip
    refine wp_ret (v := none) dX0_takeGiven_39 rfl ?_
    refine ⟨trivial, rfl, _, hR1, ?_⟩
    have hI1 : CI (sV M 2 n c f 6 0) n c l := hI.sv 0 (by decide)
    exact ⟨⟨l, hI1⟩, Oth.sv M n c f 6 0, HR.sv M n c f 6 x w 0 (by decide), sV_self _ _ _ _ _ _ _, sV_ne (by omega)⟩
  · skip
    refine wp_aload dX0_takeGiven_22 rfl ?_
    refine wr_get (g := 2) (n := n) (a := c) (b := f) (k := 0) dX0_takeGiven_24 hR1 f_X0_55 (vs2 hn hc hf (by decide)) (by decide) (by decide) ?_
    refine wp_if_ne (tgt := 40) dX0_takeGiven_27 (by decide) (fun c27 => ?_) (fun c27 => ?_)
    · skip
      refine wp_aload dX0_takeGiven_40 rfl ?_
      refine wp_iload_n (i := 2) dX0_takeGiven_42 rfl rfl ?_
      refine wp_iload_n (i := 3) dX0_takeGiven_43 rfl rfl ?_
      refine wp_iload dX0_takeGiven_44 rfl ?_
      refine wp_callV (N := mX1_beGiven) dX0_takeGiven_46 l_X0_65 v_X1_beGiven rfl (hR1.oo (vs2 hn hc hf (k := 0) (by decide)) (by decide)) rfl (by decide) (s_beGiven hR1 hn hc hf x w u) (fun v hp3 hq => ?_)
      obtain ⟨rfl, hR3⟩ := hq
      refine wp_aload_n (i := 0) dX0_takeGiven_49 rfl rfl ?_
      refine wp_iload_n (i := 1) dX0_takeGiven_50 rfl rfl ?_
      have hI2 : CI (sV M 2 n c f 6 0) n c l := hI.sv 0 (by decide)
      have hfl : f ∈ l := (hI.2.2.2.1 f hf).mp (by rw [sV_k (by decide)] at c27; exact c27)
      have hu : (useL l f).length ≤ 6 := by rw [useL_len, if_pos hfl]; exact hI.2.2.1
      refine wp_callV (N := mX0_use) dX0_takeGiven_51 l_X0_69 v_X0_use rfl (hR3.oo (vs1 hn hc (k := 2) (by decide)) (by decide)) rfl (by decide) (s_use hR3 hn hc (l := l) (hI2.1.oth (by unfold mGiven; simp only [gV_sV]; rw [if_neg (by omega), if_neg (by omega), if_neg (by omega), if_neg (by omega), if_neg (by omega)]) (fun k => by unfold mGiven; simp only [gV_sV]; rw [if_neg (by omega), if_neg (by omega), if_neg (by omega), if_neg (by omega), if_neg (by omega)])) hf (Or.inr (by have := hI2.2.2.1; omega))) (fun v hp4 hq => ?_)
      obtain ⟨rfl, F4, hR4, hF4⟩ := hq
      refine wp_ret (v := none) dX0_takeGiven_54 rfl ?_
      refine ⟨trivial, rfl, _, hR4, ?_⟩
      exact GvR.given hf (Oth.sv M n c f 6 0) (HR.sv M n c f 6 x w 0 (by decide)) (sV_self _ _ _ _ _ _ _) (sV_ne (by omega)) hI2 hu hF4
    · skip
      refine wp_aload_n (i := 0) dX0_takeGiven_30 rfl rfl ?_
      refine wp_iload dX0_takeGiven_31 rfl ?_
      have hI1 : CI (sV M 2 n c f 6 0) n c l := hI.sv 0 (by decide)
      refine wp_callV (N := mX0_makesRoom) dX0_takeGiven_33 l_X0_61 v_X0_makesRoom rfl (hR1.oo (vs1 hn hc (k := 2) (by decide)) (by decide)) rfl (by decide) (s_makesRoom hR1 hn hc hI1 (r := r) (by omega)) (fun v hp1 hq => ?_)
      obtain ⟨l', F, z, hR2, hF2, hL2, rfl⟩ := hq
      refine wp_if_ne (tgt := 40) dX0_takeGiven_36 (by decide) (fun c36 => ?_) (fun c36 => ?_)
      · skip
        refine wp_aload dX0_takeGiven_40 rfl ?_
        refine wp_iload_n (i := 2) dX0_takeGiven_42 rfl rfl ?_
        refine wp_iload_n (i := 3) dX0_takeGiven_43 rfl rfl ?_
        refine wp_iload dX0_takeGiven_44 rfl ?_
        refine wp_callV (N := mX1_beGiven) dX0_takeGiven_46 l_X0_65 v_X1_beGiven rfl (hR2.oo (vs2 hn hc hf (k := 0) (by decide)) (by decide)) rfl (by decide) (s_beGiven hR2 hn hc hf x w u) (fun v hp3 hq => ?_)
        obtain ⟨rfl, hR3⟩ := hq
        refine wp_aload_n (i := 0) dX0_takeGiven_49 rfl rfl ?_
        refine wp_iload_n (i := 1) dX0_takeGiven_50 rfl rfl ?_
        have c36 := bI_ne.mp c36
        have hfl : f ∉ l' := fun q => by
          have h9 := (hI1.2.2.2.1 f hf).mpr ((hL2.1 f).mp q).1
          exact h9 (by rw [sV_k (by decide)]; rw [sV_k (by decide)] at c27; exact c27)
        have hI2 := hI1.left hL2 hF2
        have hu : (useL l' f).length ≤ 6 := by rw [useL_len, if_neg hfl]; omega
        refine wp_callV (N := mX0_use) dX0_takeGiven_51 l_X0_69 v_X0_use rfl (hR3.oo (vs1 hn hc (k := 2) (by decide)) (by decide)) rfl (by decide) (s_use hR3 hn hc (l := l') (hI2.1.oth (by unfold mGiven; simp only [gV_sV]; rw [if_neg (by omega), if_neg (by omega), if_neg (by omega), if_neg (by omega), if_neg (by omega)]) (fun k => by unfold mGiven; simp only [gV_sV]; rw [if_neg (by omega), if_neg (by omega), if_neg (by omega), if_neg (by omega), if_neg (by omega)])) hf (Or.inr (by have := hI2.2.2.1; omega))) (fun v hp4 hq => ?_)
        obtain ⟨rfl, F4, hR4, hF4⟩ := hq
        refine wp_ret (v := none) dX0_takeGiven_54 rfl ?_
        refine ⟨trivial, rfl, _, hR4, ?_⟩
        exact GvR.given hf ((Oth.sv M n c f 6 0).trans (Oth.co _ _ _ _ _ _)) ((HR.sv M n c f 6 x w 0 (by decide)).trans (HR.co _ _ _ _ _ _ _ _ _)) (by rw [cO_he _ _ _ _ _ _ _ _ (Or.inr ⟨by decide, by decide⟩)]; exact sV_self _ _ _ _ _ _ _) (by rw [cO_he _ _ _ _ _ _ _ _ (Or.inr ⟨by decide, by decide⟩)]; exact sV_ne (by omega)) hI2 hu hF4
      · skip
        refine wp_ret (v := none) dX0_takeGiven_39 rfl ?_
        exact ⟨trivial, rfl, _, hR2, GvR.skip hI hL2 hF2⟩
/-- a file is called back -/
theorem s_takeCall (hR : Rep hp M) (hn : n < 2) (hc : c < 4) {l : List Nat} (hI : CI M n c l) {f : Nat} (hf : f < 12) : WM L xs (d + 2) mX0_takeCall [.ref (xi 1 n c 0), .int (nI f)] hp (fun v hp' => v = none ∧ ∃ M', Rep hp' M' ∧ (∃ l', CI M' n c l') ∧ Oth (sV M 1 n c 0 10 (gV M 1 n c 0 10 + 1)) M' n c ∧ HR (sV M 1 n c 0 10 (gV M 1 n c 0 10 + 1)) M' n c f 0 0 ∧ gV M' 2 n c f 6 = gV (sV M 1 n c 0 10 (gV M 1 n c 0 10 + 1)) 2 n c f 6 ∧ gV M' 2 n c f 7 = gV (sV M 1 n c 0 10 (gV M 1 n c 0 10 + 1)) 2 n c f 7) := by
  refine WM.of [some (.ref _), some (.int (nI f))] (by decide) rfl (Nat.le_of_ble_eq_true rfl) ?_
  refine wp_aload_n (i := 0) dX0_takeCall_0 rfl rfl ?_
  refine wp_dup dX0_takeCall_1 rfl ?_
  refine wr_get (g := 1) (n := n) (a := c) (b := 0) (k := 10) dX0_takeCall_2 hR f_X0_75 (vs1 hn hc (by decide)) (by decide) (by decide) ?_
  refine wp_iconst (v := 1) dX0_takeCall_5 rfl ?_
  refine wp_iadd dX0_takeCall_6 ?_
  refine wr_put (g := 1) (n := n) (a := c) (b := 0) (k := 10) dX0_takeCall_7 hR (p_X0_75 rfl) (vs1 hn hc (by decide)) (by decide) (by decide) (okI rfl) (fun hp2 hR1 => ?_)
  refine wp_aload_n (i := 0) dX0_takeCall_10 rfl rfl ?_
  refine wr_cliR (j := rF n c) dX0_takeCall_11 hR1 f_X0_11 hn hc (Or.inl ⟨rfl, rfl⟩) ?_
  refine wp_iload_n (i := 1) dX0_takeCall_14 rfl rfl ?_
  refine wr_aF (f := f) dX0_takeCall_15 hR1 rfl hn hc hf ?_
  refine wr_get (g := 2) (n := n) (a := c) (b := f) (k := 4) dX0_takeCall_16 hR1 f_X0_58 (vs2 hn hc hf (by decide)) (by decide) (by decide) ?_
  refine wp_if_eq (tgt := 35) dX0_takeCall_19 (by decide) (fun c19 => ?_) (fun c19 => ?_)
  · skip
    refine wp_aload_n (i := 0) dX0_takeCall_35 rfl rfl ?_
    refine wp_iload_n (i := 1) dX0_takeCall_36 rfl rfl ?_
    rw [gV_sV, if_neg (by omega)] at c19
    refine wp_callV (N := mX0_letGo) dX0_takeCall_37 l_X0_72 v_X0_letGo rfl (hR1.oo (vs1 hn hc (k := 2) (by decide)) (by decide)) rfl (by decide) (s_letGo hR1 hn hc (hI.1.oth (sV_ne (by omega)) (fun k => sV_ne (by omega))) hf) (fun v hp1 hq => ?_)
    obtain ⟨rfl, hq⟩ := hq
    refine wp_ret (v := none) dX0_takeCall_40 rfl ?_
    rcases hq with ⟨hm, F, hR2, hF2⟩ | ⟨hm, hR2⟩
    · refine ⟨trivial, rfl, _, hR2, ⟨l.erase f, ?_⟩, Oth.co _ _ _ _ _ _, HR.co _ _ _ _ _ _ _ _ _, ?_, ?_⟩
      · refine CI.left (l := l) (M := sV M 1 n c 0 10 (gV M 1 n c 0 10 + 1)) ⟨hI.1.oth (sV_ne (by omega)) (fun k => sV_ne (by omega)), hI.2.1, hI.2.2.1, fun g hg => by rw [gV_sV, if_neg (by omega)]; exact hI.2.2.2.1 g hg, fun g hg => by rw [gV_sV, if_neg (by omega)]; exact hI.2.2.2.2 g hg⟩ ⟨fun g => ?_, fun g hg => ?_, hI.2.1.erase f, by rw [List.length_erase_of_mem hm]; omega⟩ hF2
        · rw [hI.2.1.mem_erase_iff, List.mem_singleton]; exact ⟨fun q => ⟨q.2, q.1⟩, fun q => ⟨q.2, q.1⟩⟩
        · rw [List.mem_singleton] at hg; subst hg; exact ⟨hm, by rw [gV_sV, if_neg (by omega)]; exact c19⟩
      · rw [cO_he _ _ _ _ _ _ _ _ (Or.inr ⟨by decide, by decide⟩)]
      · rw [cO_he _ _ _ _ _ _ _ _ (Or.inr ⟨by decide, by decide⟩)]
    · exact ⟨trivial, rfl, _, hR2, ⟨l, hI.1.oth (sV_ne (by omega)) (fun k => sV_ne (by omega)), hI.2.1, hI.2.2.1, fun g hg => by rw [gV_sV, if_neg (by omega)]; exact hI.2.2.2.1 g hg, fun g hg => by rw [gV_sV, if_neg (by omega)]; exact hI.2.2.2.2 g hg⟩, Oth.rfl' _ _ _, ⟨fun g => Or.inl rfl, fun g => Or.inl rfl, fun g _ => ⟨rfl, rfl⟩⟩, rfl, rfl⟩
  · skip
    refine wp_aload_n (i := 0) dX0_takeCall_22 rfl rfl ?_
    refine wr_cliR (j := rF n c) dX0_takeCall_23 hR1 f_X0_11 hn hc (Or.inl ⟨rfl, rfl⟩) ?_
    refine wp_iload_n (i := 1) dX0_takeCall_26 rfl rfl ?_
    refine wr_aF (f := f) dX0_takeCall_27 hR1 rfl hn hc hf ?_
    refine wp_iconst (v := (-1)) dX0_takeCall_28 rfl ?_
    refine wr_put (g := 2) (n := n) (a := c) (b := f) (k := 3) dX0_takeCall_29 hR1 (p_X0_45 rfl) (vs2 hn hc hf (by decide)) (by decide) (by decide) (okI rfl) (fun hp4 hR3 => ?_)
    refine wp_goto (tgt := 40) dX0_takeCall_32 (by decide) ?_
    refine wp_ret (v := none) dX0_takeCall_40 rfl ?_
    refine ⟨trivial, rfl, _, hR3, ⟨l, ?_⟩, Oth.sv _ _ _ _ _ _, HR.sv _ _ _ _ _ _ _ _ (by decide), sV_ne (by omega), sV_ne (by omega)⟩
    exact CI.sv (M := sV M 1 n c 0 10 (gV M 1 n c 0 10 + 1)) ⟨hI.1.oth (sV_ne (by omega)) (fun k => sV_ne (by omega)), hI.2.1, hI.2.2.1, fun g hg => by rw [gV_sV, if_neg (by omega)]; exact hI.2.2.2.1 g hg, fun g hg => by rw [gV_sV, if_neg (by omega)]; exact hI.2.2.2.2 g hg⟩ _ (by decide)
end CLIENT5
end
section
/-! ===== Client, VI: what is kept aside; CLASH ===== -/
/-- a table's room, and what it has cost so far -/
def Gr (w c0 z0 t0 c z t : Nat) : Prop := (c = c0 ∧ z = z0 ∧ t = t0) ∨ (c = 2 * (c0 + 1) ∧ z = z0 + 1 ∧ t = t0 + w * c)
def Gk (c0 z0 t0 c z t : Nat) : Prop := Gr 2 c0 z0 t0 c z t ∧ (c0 < c → c ≤ 40)
theorem Gr.add {hp : AH} {M : MS} (hR : Rep hp M) {y n a : Nat} (ht : vt y n a) : Gr (tw y) (gP M y n a) (mz M) (mt M) (aP M y n a) (aZ M y n a) (aT M y n a) := by
  have hle := (hR.T ht).2.2.2.2.2.2.2.1
  by_cases h : (gT M y n a).length < gP M y n a
  · rw [aP, aZ, aT, if_pos h, if_pos h, if_pos h]; exact Or.inl ⟨rfl, rfl, rfl⟩
  · rw [aP, aZ, aT, if_neg h, if_neg h, if_neg h]
    have e : (gT M y n a).length = gP M y n a := by omega
    exact Or.inr ⟨by rw [e], rfl, rfl⟩
theorem given_ne {M : MS} {n c f : Nat} {x w u : Int32} {g n' a b k : Nat} (h : g ≠ 2) : gV (mGiven M n c f x w u) g n' a b k = gV M g n' a b k := by
  unfold mGiven
  rw [sV_ne (by omega), sV_ne (by omega), sV_ne (by omega), sV_ne (by omega), sV_ne (by omega)]
section CLIENT6
variable {L : Nat} {xs : Nat → Int32} {d : Nat} {hp : AH} {M : MS} {n c : Nat} {Q : Option Value → AH → Prop}

theorem w_keep_20 (hR : Rep hp M) (hn : n < 2) (hc : c < 4) {f : Nat} {x : Int32} (hl : (gT M 0 n c).length < 10) : WP L xs (d + 2) mX0_keepAside 20 [some (.ref (xi 1 n c 0)), some (.int (nI f)), some (.int x), none] [] hp (fun v hp' => retOk mX0_keepAside.2.2.2 v ∧ v = none ∧ ∃ r' c' z t, Rep hp' (sW M z t 0 n c r' c') ∧ r'.length ≤ 10 ∧ Gk (gP M 0 n c) (mz M) (mt M) c' z t) := by
  have hT0 : vt 0 n c := vt0 hn hc
  refine wp_aload_n (i := 0) dX0_keepAside_20 rfl rfl ?_
  refine wr_cliR (j := xt 0 n c) dX0_keepAside_21 hR f_X0_26 hn hc (Or.inr (Or.inr ⟨rfl, rfl⟩)) ?_
  refine wp_callV (N := mX4_addRow) (as := []) dX0_keepAside_24 l_X0_100 v_X4_addRow rfl (hR.oT (vt0 hn hc)) rfl (by decide) (s_addRow hR (vt0 hn hc) (by omega)) (fun v hp1 hq => ?_)
  obtain ⟨rfl, q, hR1⟩ := hq
  refine wp_istore_n (i := 3) dX0_keepAside_27 rfl (Nat.le_of_ble_eq_true rfl) ?_
  refine wp_aload_n (i := 0) dX0_keepAside_28 rfl rfl ?_
  refine wr_cliR (j := xt 0 n c) dX0_keepAside_29 hR1 f_X0_26 hn hc (Or.inr (Or.inr ⟨rfl, rfl⟩)) ?_
  refine wp_iload_n (i := 3) dX0_keepAside_32 rfl rfl ?_
  refine wp_iconst (v := 0) dX0_keepAside_33 rfl ?_
  refine wp_iload_n (i := 1) dX0_keepAside_34 rfl rfl ?_
  refine wp_callV (N := mX4_put) (as := [.int (nI (gT M 0 n c).length), .int (nI 0), .int (nI f)]) dX0_keepAside_35 l_X0_104 v_X4_put rfl (hR1.oT (vt0 hn hc)) rfl (by decide) (s_put hR1 (vt0 hn hc) (r := (gT M 0 n c).length) (c := 0) (by rw [gT_sW, List.length_append]; exact Nat.lt_succ_self _) (by decide) (nI f)) (fun v hp1 hq => ?_)
  obtain ⟨rfl, hR2⟩ := hq
  refine wp_aload_n (i := 0) dX0_keepAside_38 rfl rfl ?_
  refine wr_cliR (j := xt 0 n c) dX0_keepAside_39 hR2 f_X0_26 hn hc (Or.inr (Or.inr ⟨rfl, rfl⟩)) ?_
  refine wp_iload_n (i := 3) dX0_keepAside_42 rfl rfl ?_
  refine wp_iconst (v := 1) dX0_keepAside_43 rfl ?_
  refine wp_iload_n (i := 2) dX0_keepAside_44 rfl rfl ?_
  refine wp_callV (N := mX4_put) (as := [.int (nI (gT M 0 n c).length), .int (nI 1), .int x]) dX0_keepAside_45 l_X0_104 v_X4_put rfl (hR2.oT (vt0 hn hc)) rfl (by decide) (s_put hR2 (vt0 hn hc) (r := (gT M 0 n c).length) (c := 1) (by rw [gT_sW, List.length_set, gT_sW, List.length_append]; exact Nat.lt_succ_self _) (by decide) x) (fun v hp1 hq => ?_)
  obtain ⟨rfl, hR3⟩ := hq
  refine wp_ret (v := none) dX0_keepAside_48 rfl ?_
  rw [sW_sW, sW_sW] at hR3
  have hg : Gk (gP M 0 n c) (mz M) (mt M) (aP M 0 n c) (aZ M 0 n c) (aT M 0 n c) := ⟨Gr.add hR hT0, fun hlt => by
    unfold aP at hlt ⊢
    by_cases h9 : (gT M 0 n c).length < gP M 0 n c
    · rw [if_pos h9] at hlt; omega
    · rw [if_neg h9]; omega⟩
  rw [gP_sW, gP_sW] at hR3
  refine ⟨trivial, rfl, _, _, _, _, hR3, ?_, hg⟩
  rw [List.length_set, gT_sW, List.length_set, gT_sW, List.length_append]
  exact hl
/-- what a client had is kept aside, the latest ten -/
theorem s_keepAside (hR : Rep hp M) (hn : n < 2) (hc : c < 4) {f : Nat} {x : Int32} (hl : (gT M 0 n c).length ≤ 10) : WM L xs (d + 2) mX0_keepAside [.ref (xi 1 n c 0), .int (nI f), .int x] hp (fun v hp' => v = none ∧ ∃ r' c' z t, Rep hp' (sW M z t 0 n c r' c') ∧ r'.length ≤ 10 ∧ Gk (gP M 0 n c) (mz M) (mt M) c' z t) := by
  refine WM.of [some (.ref _), some (.int (nI f)), some (.int x), none] (by decide) rfl (Nat.le_of_ble_eq_true rfl) ?_
  refine wp_aload_n (i := 0) dX0_keepAside_0 rfl rfl ?_
  refine wr_cliR (j := xt 0 n c) dX0_keepAside_1 hR f_X0_26 hn hc (Or.inr (Or.inr ⟨rfl, rfl⟩)) ?_
  refine wr_rows dX0_keepAside_4 hR f_X0_94 (vt0 hn hc) ?_
  refine wp_bipush (v := nI 10) dX0_keepAside_7 (by decide) ?_
  refine wp_icmp_lt (tgt := 20) dX0_keepAside_9 (by decide) (fun c9 => ?_) (fun c9 => ?_)
  · skip
    rw [nI_ltI (by omega) (by decide)] at c9
    refine WP.mono (w_keep_20 hR hn hc (by omega)) (fun v hp' hq => ?_)
    obtain ⟨q1, q2, r', c', z, t, q3, q4, q5⟩ := hq
    exact ⟨q1, q2, r', c', z, t, q3, q4, q5⟩
  · skip
    refine wp_aload_n (i := 0) dX0_keepAside_12 rfl rfl ?_
    refine wr_cliR (j := xt 0 n c) dX0_keepAside_13 hR f_X0_26 hn hc (Or.inr (Or.inr ⟨rfl, rfl⟩)) ?_
    refine wp_iconst (v := 1) dX0_keepAside_16 rfl ?_
    refine wp_callV (N := mX4_dropFirst) (as := [.int (nI 1)]) dX0_keepAside_17 l_X0_97 v_X4_dropFirst rfl (hR.oT (vt0 hn hc)) rfl (by decide) (s_dropFirst hR (vt0 hn hc) (m := 1) (by rw [nI_ltI (by omega) (by decide)] at c9; omega)) (fun v hp1 hq => ?_)
    obtain ⟨rfl, hR1⟩ := hq
    rw [nI_ltI (by omega) (by decide)] at c9
    refine WP.mono (w_keep_20 hR1 hn hc (by rw [gT_sW, List.length_drop]; omega)) (fun v hp' hq => ?_)
    obtain ⟨q1, q2, r', c', z, t, q3, q4, q5⟩ := hq
    rw [sW_sW] at q3
    rw [gP_sW] at q5
    exact ⟨q1, q2, r', c', z, t, q3, q4, q5⟩
/-- behind a CLASH: its client's files, what it kept aside -/
def ClR (M M' : MS) (n c f : Nat) (x w : Int32) : Prop := (∃ l', CI M' n c l') ∧ HR M M' n c f x w ∧ gV M' 2 n c f 6 = gV M 2 n c f 6 ∧ gV M' 2 n c f 7 = 0 ∧
  (∀ g n' a b k, ¬ (n' = n ∧ a = c ∧ (g = 2 ∨ g = 3 ∨ (g = 1 ∧ b = 0 ∧ k = 2))) → gV M' g n' a b k = gV (sV M 1 n c 0 9 (gV M 1 n c 0 9 + 1)) g n' a b k) ∧
  (∀ y n' a, ¬ (y = 0 ∧ n' = n ∧ a = c) → gT M' y n' a = gT M y n' a ∧ gP M' y n' a = gP M y n' a) ∧ (∀ i, gX M' i = gX M i) ∧ (gT M' 0 n c).length ≤ 10 ∧ Gk (gP M 0 n c) (mz M) (mt M) (gP M' 0 n c) (mz M') (mt M')
theorem gV_sW (M : MS) (z t y n a : Nat) (r : List Row) (cap g n' a' b k : Nat) : gV (sW M z t y n a r cap) g n' a' b k = gV M g n' a' b k := rfl
theorem CI.of {M M' : MS} {n c : Nat} {l : List Nat} (h : CI M n c l) (h1 : gV M' 1 n c 0 2 = gV M 1 n c 0 2) (h3 : ∀ k, gV M' 3 n c 0 k = gV M 3 n c 0 k) (h2 : ∀ f, gV M' 2 n c f 0 = gV M 2 n c f 0 ∧ gV M' 2 n c f 4 = gV M 2 n c f 4) : CI M' n c l :=
  ⟨h.1.oth h1 h3, h.2.1, h.2.2.1, fun f hf => by rw [(h2 f).1]; exact h.2.2.2.1 f hf, fun f hf => by rw [(h2 f).2]; exact h.2.2.2.2 f hf⟩
/-- CLASH comes; the answer: whether the file is to be sent again -/
theorem s_takeClash (hR : Rep hp M) (hn : n < 2) (hc : c < 4) {l : List Nat} (hI : CI M n c l) {f : Nat} (hf : f < 12) (x w : Int32) (hl : (gT M 0 n c).length ≤ 10) : WM L xs (d + 3) mX0_takeClash [.ref (xi 1 n c 0), .int (nI f), .int x, .int w] hp (fun v hp' => ∃ M', Rep hp' M' ∧ ClR M M' n c f x w ∧ (v = some (.int 0) ∨ v = some (.int 1))) := by
  have hB : ∀ g n' a b k, ¬ (n' = n ∧ a = c ∧ (g = 2 ∨ g = 3 ∨ (g = 1 ∧ b = 0 ∧ k = 2))) → gV (sV (sV M 2 n c f 7 0) 1 n c 0 9 (gV (sV M 2 n c f 7 0) 1 n c 0 9 + 1)) g n' a b k = gV (sV M 1 n c 0 9 (gV M 1 n c 0 9 + 1)) g n' a b k := by
    intro g n' a b k hq
    simp only [gV_sV]
    repeat' split
    all_goals first | rfl | (exfalso; omega) | skip
  refine WM.of [some (.ref _), some (.int (nI f)), some (.int x), some (.int w), none] (by decide) rfl (Nat.le_of_ble_eq_true rfl) ?_
  refine wp_aload_n (i := 0) dX0_takeClash_0 rfl rfl ?_
  refine wr_cliR (j := rF n c) dX0_takeClash_1 hR f_X0_11 hn hc (Or.inl ⟨rfl, rfl⟩) ?_
  refine wp_iload_n (i := 1) dX0_takeClash_4 rfl rfl ?_
  refine wr_aF (f := f) dX0_takeClash_5 hR rfl hn hc hf ?_
  refine wp_astore dX0_takeClash_6 (Nat.le_of_ble_eq_true rfl) ?_
  refine wp_aload dX0_takeClash_8 rfl ?_
  refine wp_iconst (v := 0) dX0_takeClash_10 rfl ?_
  refine wr_put (g := 2) (n := n) (a := c) (b := f) (k := 7) dX0_takeClash_11 hR (p_X0_42 rfl) (vs2 hn hc hf (by decide)) (by decide) (by decide) (okB rfl (by decide)) (fun hp2 hR1 => ?_)
  refine wp_aload_n (i := 0) dX0_takeClash_14 rfl rfl ?_
  refine wp_dup dX0_takeClash_15 rfl ?_
  refine wr_get (g := 1) (n := n) (a := c) (b := 0) (k := 9) dX0_takeClash_16 hR1 f_X0_78 (vs1 hn hc (by decide)) (by decide) (by decide) ?_
  refine wp_iconst (v := 1) dX0_takeClash_19 rfl ?_
  refine wp_iadd dX0_takeClash_20 ?_
  refine wr_put (g := 1) (n := n) (a := c) (b := 0) (k := 9) dX0_takeClash_21 hR1 (p_X0_78 rfl) (vs1 hn hc (by decide)) (by decide) (by decide) (okI rfl) (fun hp4 hR3 => ?_)
  refine wp_aload dX0_takeClash_24 rfl ?_
  refine wr_get (g := 2) (n := n) (a := c) (b := f) (k := 0) dX0_takeClash_26 hR3 f_X0_55 (vs2 hn hc hf (by decide)) (by decide) (by decide) ?_
  refine wp_if_ne (tgt := 34) dX0_takeClash_29 (by decide) (fun c29 => ?_) (fun c29 => ?_)
  · skip
    refine wp_aload_n (i := 0) dX0_takeClash_34 rfl rfl ?_
    refine wr_get (g := 1) (n := n) (a := c) (b := 0) (k := 5) dX0_takeClash_35 hR3 f_X0_81 (vs1 hn hc (by decide)) (by decide) (by decide) ?_
    refine wp_iconst (v := 1) dX0_takeClash_38 rfl ?_
    refine wp_icmp_ne (tgt := 50) dX0_takeClash_39 (by decide) (fun c39 => ?_) (fun c39 => ?_)
    · skip
      refine wp_aload_n (i := 0) dX0_takeClash_50 rfl rfl ?_
      refine wr_get (g := 1) (n := n) (a := c) (b := 0) (k := 5) dX0_takeClash_51 hR3 f_X0_81 (vs1 hn hc (by decide)) (by decide) (by decide) ?_
      refine wp_iconst (v := 2) dX0_takeClash_54 rfl ?_
      refine wp_icmp_ne (tgt := 68) dX0_takeClash_55 (by decide) (fun c55 => ?_) (fun c55 => ?_)
      · skip
        refine wp_aload dX0_takeClash_68 rfl ?_
        refine wp_iload_n (i := 2) dX0_takeClash_70 rfl rfl ?_
        refine wp_iload_n (i := 3) dX0_takeClash_71 rfl rfl ?_
        refine wp_iconst (v := (-1)) dX0_takeClash_72 rfl ?_
        refine wp_callV (N := mX1_beGiven) (as := [.int x, .int w, .int (-1)]) dX0_takeClash_73 l_X0_65 v_X1_beGiven rfl (hR3.oo (vs2 hn hc hf (k := 0) (by decide)) (by decide)) rfl (by decide) (s_beGiven hR3 hn hc hf x w (-1)) (fun v hp3 hq => ?_)
        obtain ⟨rfl, hR6⟩ := hq
        refine wp_iconst (v := 0) dX0_takeClash_76 rfl ?_
        refine wp_ret (v := some (.int _)) dX0_takeClash_77 rfl ?_
        have hhe : ¬ gV M 2 n c f 0 = 0 := by rw [sV_ne (by omega), sV_ne (by omega)] at c29; exact c29
        have hfl : f ∈ l := (hI.2.2.2.1 f hf).mp hhe
        have hO := Oth.given (sV (sV M 2 n c f 7 0) 1 n c 0 9 (gV (sV M 2 n c f 7 0) 1 n c 0 9 + 1)) n c f x w (-1)
        refine ⟨Or.inl rfl, _, hR6, ⟨⟨l, ?_, hI.2.1, hI.2.2.1, fun g hg => ?_, fun g hg hd => ?_⟩, HR.trans (M' := sV (sV M 2 n c f 7 0) 1 n c 0 9 (gV (sV M 2 n c f 7 0) 1 n c 0 9 + 1)) ⟨fun g => Or.inl (by rw [sV_ne (by omega), sV_ne (by omega)]), fun g => Or.inl (by rw [sV_ne (by omega), sV_ne (by omega)]), fun g hg => ⟨by rw [sV_ne (by omega), sV_ne (by omega)], by rw [sV_ne (by omega), sV_ne (by omega)]⟩⟩ (HR.given _ n c f x w (-1)), ?_, ?_, fun g n' a b k hq => (hO.1 g n' a b k hq).trans (hB g n' a b k hq), fun _ _ _ _ => ⟨rfl, rfl⟩, fun _ => rfl, hl, ⟨Or.inl ⟨rfl, rfl, rfl⟩, fun q => absurd q (Nat.lt_irrefl _)⟩⟩, Or.inl rfl⟩
        · refine hI.1.oth ?_ (fun k => ?_)
          · rw [given_ne (by decide)]; rw [sV_ne (by omega), sV_ne (by omega)]
          · rw [given_ne (by decide)]; rw [sV_ne (by omega), sV_ne (by omega)]
        · rw [given_get]
          by_cases h : g = f
          · rw [if_pos h]; subst h; exact ⟨fun _ => hfl, fun _ q => absurd q (show ¬ (1 : Int32) = 0 by decide)⟩
          · rw [if_neg h]; rw [sV_ne (by omega), sV_ne (by omega)]; exact hI.2.2.2.1 g hg
        · rw [given_get] at hd
          by_cases h : g = f
          · subst h; exact hfl
          · rw [if_neg h] at hd; refine hI.2.2.2.2 g hg (fun q => hd ?_); rw [sV_ne (by omega), sV_ne (by omega)]; exact q
        · rw [given_get, if_pos rfl]; show gV (sV (sV M 2 n c f 7 0) 1 n c 0 9 (gV (sV M 2 n c f 7 0) 1 n c 0 9 + 1)) 2 n c f 6 = _; rw [sV_ne (by omega), sV_ne (by omega)]
        · rw [given_get, if_pos rfl]; show gV (sV (sV M 2 n c f 7 0) 1 n c 0 9 (gV (sV M 2 n c f 7 0) 1 n c 0 9 + 1)) 2 n c f 7 = 0; rw [sV_ne (by omega), sV_self]
      · skip
        refine wp_aload_n (i := 0) dX0_takeClash_58 rfl rfl ?_
        refine wp_iload_n (i := 1) dX0_takeClash_59 rfl rfl ?_
        refine wp_aload dX0_takeClash_60 rfl ?_
        refine wr_get (g := 2) (n := n) (a := c) (b := f) (k := 1) dX0_takeClash_62 hR3 f_X0_87 (vs2 hn hc hf (by decide)) (by decide) (by decide) ?_
        refine wp_callV (N := mX0_keepAside) dX0_takeClash_65 l_X0_90 v_X0_keepAside rfl (hR3.oo (vs1 hn hc (k := 2) (by decide)) (by decide)) rfl (by decide) (s_keepAside hR3 hn hc hl) (fun v hp1 hq => ?_)
        obtain ⟨rfl, r', c', z, t, hR5, hr', hg⟩ := hq
        refine wp_aload dX0_takeClash_68 rfl ?_
        refine wp_iload_n (i := 2) dX0_takeClash_70 rfl rfl ?_
        refine wp_iload_n (i := 3) dX0_takeClash_71 rfl rfl ?_
        refine wp_iconst (v := (-1)) dX0_takeClash_72 rfl ?_
        refine wp_callV (N := mX1_beGiven) (as := [.int x, .int w, .int (-1)]) dX0_takeClash_73 l_X0_65 v_X1_beGiven rfl (hR5.oo (vs2 hn hc hf (k := 0) (by decide)) (by decide)) rfl (by decide) (s_beGiven hR5 hn hc hf x w (-1)) (fun v hp3 hq => ?_)
        obtain ⟨rfl, hR6⟩ := hq
        refine wp_iconst (v := 0) dX0_takeClash_76 rfl ?_
        refine wp_ret (v := some (.int _)) dX0_takeClash_77 rfl ?_
        have hhe : ¬ gV M 2 n c f 0 = 0 := by rw [sV_ne (by omega), sV_ne (by omega)] at c29; exact c29
        have hfl : f ∈ l := (hI.2.2.2.1 f hf).mp hhe
        have hO := Oth.given (sW (sV (sV M 2 n c f 7 0) 1 n c 0 9 (gV (sV M 2 n c f 7 0) 1 n c 0 9 + 1)) z t 0 n c r' c') n c f x w (-1)
        refine ⟨Or.inl rfl, _, hR6, ⟨⟨l, ?_, hI.2.1, hI.2.2.1, fun g hg => ?_, fun g hg hd => ?_⟩, HR.trans (M' := sW (sV (sV M 2 n c f 7 0) 1 n c 0 9 (gV (sV M 2 n c f 7 0) 1 n c 0 9 + 1)) z t 0 n c r' c') ⟨fun g => Or.inl (by rw [gV_sW, sV_ne (by omega), sV_ne (by omega)]), fun g => Or.inl (by rw [gV_sW, sV_ne (by omega), sV_ne (by omega)]), fun g hg => ⟨by rw [gV_sW, sV_ne (by omega), sV_ne (by omega)], by rw [gV_sW, sV_ne (by omega), sV_ne (by omega)]⟩⟩ (HR.given _ n c f x w (-1)), ?_, ?_, fun g n' a b k hq => (hO.1 g n' a b k hq).trans (hB g n' a b k hq), fun y n' a hq => ⟨gT_sWn (z := z) (t := t) hq, gP_sWn (z := z) (t := t) hq⟩, fun _ => rfl, by show (gT (sW (sV (sV M 2 n c f 7 0) 1 n c 0 9 (gV (sV M 2 n c f 7 0) 1 n c 0 9 + 1)) z t 0 n c r' c') 0 n c).length ≤ 10; rw [gT_sW]; exact hr', by show Gk (gP M 0 n c) (mz M) (mt M) (gP (sW (sV (sV M 2 n c f 7 0) 1 n c 0 9 (gV (sV M 2 n c f 7 0) 1 n c 0 9 + 1)) z t 0 n c r' c') 0 n c) z t; rw [gP_sW]; exact hg⟩, Or.inl rfl⟩
        · refine hI.1.oth ?_ (fun k => ?_)
          · rw [given_ne (by decide)]; rw [gV_sW, sV_ne (by omega), sV_ne (by omega)]
          · rw [given_ne (by decide)]; rw [gV_sW, sV_ne (by omega), sV_ne (by omega)]
        · rw [given_get]
          by_cases h : g = f
          · rw [if_pos h]; subst h; exact ⟨fun _ => hfl, fun _ q => absurd q (show ¬ (1 : Int32) = 0 by decide)⟩
          · rw [if_neg h]; rw [gV_sW, sV_ne (by omega), sV_ne (by omega)]; exact hI.2.2.2.1 g hg
        · rw [given_get] at hd
          by_cases h : g = f
          · subst h; exact hfl
          · rw [if_neg h] at hd; refine hI.2.2.2.2 g hg (fun q => hd ?_); rw [gV_sW, sV_ne (by omega), sV_ne (by omega)]; exact q
        · rw [given_get, if_pos rfl]; show gV (sW (sV (sV M 2 n c f 7 0) 1 n c 0 9 (gV (sV M 2 n c f 7 0) 1 n c 0 9 + 1)) z t 0 n c r' c') 2 n c f 6 = _; rw [gV_sW, sV_ne (by omega), sV_ne (by omega)]
        · rw [given_get, if_pos rfl]; show gV (sW (sV (sV M 2 n c f 7 0) 1 n c 0 9 (gV (sV M 2 n c f 7 0) 1 n c 0 9 + 1)) z t 0 n c r' c') 2 n c f 7 = 0; rw [gV_sW, sV_ne (by omega), sV_self]
    · skip
      refine wp_aload dX0_takeClash_42 rfl ?_
      refine wp_iload_n (i := 3) dX0_takeClash_44 rfl rfl ?_
      refine wr_put (g := 2) (n := n) (a := c) (b := f) (k := 2) dX0_takeClash_45 hR3 (p_X0_84 rfl) (vs2 hn hc hf (by decide)) (by decide) (by decide) (okI rfl) (fun hp6 hR5 => ?_)
      refine wp_iconst (v := 1) dX0_takeClash_48 rfl ?_
      refine wp_ret (v := some (.int _)) dX0_takeClash_49 rfl ?_
      exact ⟨Or.inr rfl, _, hR5, ⟨⟨l, hI.of (by rw [sV_ne (by omega), sV_ne (by omega), sV_ne (by omega)]) (fun k => by rw [sV_ne (by omega), sV_ne (by omega), sV_ne (by omega)]) (fun g => ⟨by rw [sV_ne (by omega), sV_ne (by omega), sV_ne (by omega)], by rw [sV_ne (by omega), sV_ne (by omega), sV_ne (by omega)]⟩)⟩, ⟨fun g => Or.inl (by rw [sV_ne (by omega), sV_ne (by omega), sV_ne (by omega)]), fun g => by
        by_cases hg : g = f
        · subst hg; right; exact ⟨rfl, by rw [sV_self]⟩
        · left; rw [sV_ne (by omega), sV_ne (by omega), sV_ne (by omega)], fun g hg => ⟨by rw [sV_ne (by omega), sV_ne (by omega), sV_ne (by omega)], by rw [sV_ne (by omega), sV_ne (by omega), sV_ne (by omega)]⟩⟩, by rw [sV_ne (by omega), sV_ne (by omega), sV_ne (by omega)], by rw [sV_ne (by omega), sV_ne (by omega), sV_self], fun g n' a b k hq => by
        rw [sV_ne (by omega)]
        exact hB g n' a b k hq, fun _ _ _ _ => ⟨rfl, rfl⟩, fun _ => rfl, hl, ⟨Or.inl ⟨rfl, rfl, rfl⟩, fun q => absurd q (Nat.lt_irrefl _)⟩⟩, Or.inr rfl⟩
  · skip
    refine wp_iconst (v := 0) dX0_takeClash_32 rfl ?_
    refine wp_ret (v := some (.int _)) dX0_takeClash_33 rfl ?_
    exact ⟨Or.inl rfl, _, hR3, ⟨⟨l, hI.of (by rw [sV_ne (by omega), sV_ne (by omega)]) (fun k => by rw [sV_ne (by omega), sV_ne (by omega)]) (fun g => ⟨by rw [sV_ne (by omega), sV_ne (by omega)], by rw [sV_ne (by omega), sV_ne (by omega)]⟩)⟩, ⟨fun g => Or.inl (by rw [sV_ne (by omega), sV_ne (by omega)]), fun g => Or.inl (by rw [sV_ne (by omega), sV_ne (by omega)]), fun g hg => ⟨by rw [sV_ne (by omega), sV_ne (by omega)], by rw [sV_ne (by omega), sV_ne (by omega)]⟩⟩, by rw [sV_ne (by omega), sV_ne (by omega)], by rw [sV_ne (by omega), sV_self], fun g n' a b k hq => hB g n' a b k hq, fun _ _ _ _ => ⟨rfl, rfl⟩, fun _ => rfl, hl, ⟨Or.inl ⟨rfl, rfl, rfl⟩, fun q => absurd q (Nat.lt_irrefl _)⟩⟩, Or.inl rfl⟩
end CLIENT6
end
section
/-! ===== Shelf ===== -/
theorem put_last (l : List Row) (q d0 : Row) (c : Nat) (x : Int32) : (l ++ [q]).set l.length (upd ((l ++ [q]).getD l.length d0) c x) = l ++ [upd q c x] := by
  rw [List.set_append_right _ _ (Nat.le_refl _), Nat.sub_self, List.getD_eq_getElem?_getD, List.getElem?_append_right (Nat.le_refl _), Nat.sub_self]
  rfl
section SHELF
variable {L : Nat} {xs : Nat → Int32} {d : Nat} {hp : AH} {M : MS} {n f : Nat}
/-- a number of the last row -/
theorem s_putLast {y a z t cap : Nat} {l : List Row} {q : Row} (hR : Rep hp (sW M z t y n a (l ++ [q]) cap)) (ht : vt y n a) {c : Nat} (hc : c < tw y) (x : Int32) : WM L xs (d + 1) mX4_put [.ref (xt y n a), .int (nI l.length), .int (nI c), .int x] hp (fun v hp' => v = none ∧ Rep hp' (sW M z t y n a (l ++ [upd q c x]) cap)) := by
  refine WM.mono (s_put hR ht (r := l.length) (c := c) (by rw [gT_sW, List.length_append]; exact Nat.lt_succ_self _) hc x) (fun v hp' hq => ?_)
  obtain ⟨h1, h2⟩ := hq
  refine ⟨h1, ?_⟩
  rw [gT_sW, gP_sW, sW_sW, put_last] at h2
  exact h2
/-- whether a client has a lease -/
theorem s_isLeased (hR : Rep hp M) (hn : n < 2) (hf : f < 12) {c : Nat} (hc : c < 4) (x : Int32) : WM L xs d mX3_isLeased [.ref (xi 4 n f 0), .int (nI c), .int x] hp (fun v hp' => hp' = hp ∧ v = some (.int (bI (x < gV M 5 n f 0 c)))) := by
  refine WM.of [some (.ref _), some (.int (nI c)), some (.int x)] (by decide) rfl (Nat.le_of_ble_eq_true rfl) ?_
  refine wp_iload_n (i := 2) dX3_isLeased_0 rfl rfl ?_
  refine wp_aload_n (i := 0) dX3_isLeased_1 rfl rfl ?_
  refine wr_sheR (j := xi 5 n f 0) dX3_isLeased_2 hR f_X3_9 hn hf (Or.inl ⟨rfl, rfl⟩) ?_
  refine wp_iload_n (i := 1) dX3_isLeased_5 rfl rfl ?_
  refine wr_untG (k := c) dX3_isLeased_6 hR rfl (vs5 hn hf hc) ?_
  refine wp_icmp_ge (tgt := 14) dX3_isLeased_7 (by decide) (fun c7 => ?_) (fun c7 => ?_)
  · skip
    refine wp_iconst (v := 0) dX3_isLeased_14 rfl ?_
    refine wp_ret (v := some (.int _)) dX3_isLeased_15 rfl ?_
    exact ⟨by first | exact Or.inr rfl | exact Or.inl rfl, rfl, by first | rw [bI_t (by assumption)] | rw [bI_f (by assumption)]⟩
  · skip
    refine wp_iconst (v := 1) dX3_isLeased_10 rfl ?_
    refine wp_goto (tgt := 15) dX3_isLeased_11 (by decide) ?_
    refine wp_ret (v := some (.int _)) dX3_isLeased_15 rfl ?_
    exact ⟨by first | exact Or.inr rfl | exact Or.inl rfl, rfl, by first | rw [bI_t (by assumption)] | rw [bI_f (by assumption)]⟩
/-- whether a request has to wait -/
def hWt (M : MS) (n f r : Nat) (x : Int32) : Prop := ¬ gC M 1 n f r 1 = 0 ∧ ∃ o, o < 4 ∧ ¬ nI o = gC M 1 n f r 0 ∧ x < gV M 5 n f 0 o
theorem w_wait_27 (hR : Rep hp M) (hn : n < 2) (hf : f < 12) {r : Nat} (x : Int32) (h1 : ¬ gC M 1 n f r 1 = 0) : ∀ (m o : Nat), 4 - o = m → o ≤ 4 → (∀ j, j < o → ¬ (¬ nI j = gC M 1 n f r 0 ∧ x < gV M 5 n f 0 j)) → WP L xs (d + 1) mX3_hasToWait 27 [some (.ref (xi 4 n f 0)), some (.int (nI r)), some (.int x), some (.int (gC M 1 n f r 0)), some (.int (nI o))] [] hp (fun v hp' => retOk mX3_hasToWait.2.2.2 v ∧ hp' = hp ∧ ((hWt M n f r x ∧ v = some (.int 1)) ∨ (¬ hWt M n f r x ∧ v = some (.int 0)))) := by
  intro m
  induction m using Nat.strongRecOn with
  | ind m ih =>
    intro o hm ho0 hno
    subst hm
    refine wp_iload dX3_hasToWait_27 rfl ?_
    refine wp_iconst (v := 4) dX3_hasToWait_29 rfl ?_
    refine wp_icmp_ge (tgt := 57) dX3_hasToWait_30 (by decide) (fun c30 => ?_) (fun c30 => ?_)
    · skip
      have ho4 : o = 4 := by
        rcases Nat.lt_or_ge o 4 with q | q
        · exact absurd (nI_lt q (by decide)) c30
        · omega
      subst ho4
      refine wp_iconst (v := 0) dX3_hasToWait_57 rfl ?_
      refine wp_ret (v := some (.int _)) dX3_hasToWait_58 rfl ?_
      refine ⟨Or.inl rfl, rfl, Or.inr ⟨?_, rfl⟩⟩
      rintro ⟨-, o', q1, q2⟩
      exact hno o' q1 q2
    · skip
      refine wp_iload dX3_hasToWait_33 rfl ?_
      refine wp_iload_n (i := 3) dX3_hasToWait_35 rfl rfl ?_
      refine wp_icmp_eq (tgt := 51) dX3_hasToWait_36 (by decide) (fun c36 => ?_) (fun c36 => ?_)
      · skip
        refine wp_iinc (v := nI (o + 1)) dX3_hasToWait_51 rfl (nI_1 _) ?_
        refine wp_goto (tgt := 27) dX3_hasToWait_54 (by decide) ?_
        have ho9 : o < 4 := (nI_ltI (by omega) (by decide)).mp c30
        exact ih (4 - (o + 1)) (by omega) (o + 1) rfl (by omega) (fun j hj => by
          rcases Nat.lt_or_ge j o with q | q
          · exact hno j q
          · have hjo : j = o := by omega
            subst hjo
            exact fun q => q.1 c36)
      · skip
        refine wp_aload_n (i := 0) dX3_hasToWait_39 rfl rfl ?_
        refine wp_iload dX3_hasToWait_40 rfl ?_
        refine wp_iload_n (i := 2) dX3_hasToWait_42 rfl rfl ?_
        have ho9 : o < 4 := (nI_ltI (by omega) (by decide)).mp c30
        refine wp_callV (N := mX3_isLeased) dX3_hasToWait_43 l_X3_28 v_X3_isLeased rfl (hR.oo (vs4 hn hf (k := 0) (by decide)) (by decide)) rfl (by decide) (s_isLeased hR hn hf ho9 x) (fun v hp1 hq => ?_)
        obtain ⟨rfl, rfl⟩ := hq
        refine wp_if_eq (tgt := 51) dX3_hasToWait_46 (by decide) (fun c46 => ?_) (fun c46 => ?_)
        · skip
          refine wp_iinc (v := nI (o + 1)) dX3_hasToWait_51 rfl (nI_1 _) ?_
          refine wp_goto (tgt := 27) dX3_hasToWait_54 (by decide) ?_
          have c46 := bI_eq.mp c46
          exact ih (4 - (o + 1)) (by omega) (o + 1) rfl (by omega) (fun j hj => by
            rcases Nat.lt_or_ge j o with q | q
            · exact hno j q
            · have hjo : j = o := by omega
              subst hjo
              exact fun q => c46 q.2)
        · skip
          refine wp_iconst (v := 1) dX3_hasToWait_49 rfl ?_
          refine wp_ret (v := some (.int _)) dX3_hasToWait_50 rfl ?_
          have c46 := bI_ne.mp c46
          exact ⟨Or.inr rfl, rfl, Or.inl ⟨⟨h1, o, ho9, c36, c46⟩, rfl⟩⟩
/-- whether the request has to wait -/
theorem s_hasToWait (hR : Rep hp M) (hn : n < 2) (hf : f < 12) {r : Nat} (hr : r < (gT M 1 n f).length) (x : Int32) : WM L xs (d + 2) mX3_hasToWait [.ref (xi 4 n f 0), .int (nI r), .int x] hp (fun v hp' => hp' = hp ∧ ((hWt M n f r x ∧ v = some (.int 1)) ∨ (¬ hWt M n f r x ∧ v = some (.int 0)))) := by
  refine WM.of [some (.ref _), some (.int (nI r)), some (.int x), none, none] (by decide) rfl (Nat.le_of_ble_eq_true rfl) ?_
  refine wp_aload_n (i := 0) dX3_hasToWait_0 rfl rfl ?_
  refine wr_sheR (j := xt 1 n f) dX3_hasToWait_1 hR f_X3_20 hn hf (Or.inr ⟨rfl, rfl⟩) ?_
  refine wp_iload_n (i := 1) dX3_hasToWait_4 rfl rfl ?_
  refine wp_iconst (v := 1) dX3_hasToWait_5 rfl ?_
  refine wp_callV (N := mX4_get) dX3_hasToWait_6 l_X3_24 v_X4_get rfl (hR.oT (vt1 hn hf)) rfl (by decide) (s_get hR (vt1 hn hf) hr (c := 1) (by decide)) (fun v hp1 hq => ?_)
  obtain ⟨rfl, rfl⟩ := hq
  refine wp_if_ne (tgt := 14) dX3_hasToWait_9 (by decide) (fun c9 => ?_) (fun c9 => ?_)
  · skip
    refine wp_aload_n (i := 0) dX3_hasToWait_14 rfl rfl ?_
    refine wr_sheR (j := xt 1 n f) dX3_hasToWait_15 hR f_X3_20 hn hf (Or.inr ⟨rfl, rfl⟩) ?_
    refine wp_iload_n (i := 1) dX3_hasToWait_18 rfl rfl ?_
    refine wp_iconst (v := 0) dX3_hasToWait_19 rfl ?_
    refine wp_callV (N := mX4_get) dX3_hasToWait_20 l_X3_24 v_X4_get rfl (hR.oT (vt1 hn hf)) rfl (by decide) (s_get hR (vt1 hn hf) hr (c := 0) (by decide)) (fun v hp1 hq => ?_)
    obtain ⟨rfl, rfl⟩ := hq
    refine wp_istore_n (i := 3) dX3_hasToWait_23 rfl (Nat.le_of_ble_eq_true rfl) ?_
    refine wp_iconst (v := 0) dX3_hasToWait_24 rfl ?_
    refine wp_istore dX3_hasToWait_25 (Nat.le_of_ble_eq_true rfl) ?_
    exact w_wait_27 hR hn hf x c9 4 0 rfl (by decide) (fun j hj => absurd hj (Nat.not_lt_zero j))
  · skip
    refine wp_iconst (v := 0) dX3_hasToWait_12 rfl ?_
    refine wp_ret (v := some (.int _)) dX3_hasToWait_13 rfl ?_
    refine ⟨Or.inl rfl, rfl, Or.inr ⟨fun q => q.1 ?_, rfl⟩⟩
    exact c9
/-- one more request -/
theorem s_addRequest (hR : Rep hp M) (hn : n < 2) (hf : f < 12) (hl : (gT M 1 n f).length < 65536) (x0 x1 x2 x3 : Int32) : WM L xs (d + 2) mX3_addRequest [.ref (xi 4 n f 0), .int x0, .int x1, .int x2, .int x3] hp (fun v hp' => v = some (.int (nI (gT M 1 n f).length)) ∧ ∃ q : Row, q 0 = x0 ∧ q 1 = x1 ∧ q 2 = x2 ∧ q 3 = x3 ∧ Rep hp' (sW M (aZ M 1 n f) (aT M 1 n f) 1 n f (gT M 1 n f ++ [q]) (aP M 1 n f))) := by
  refine WM.of [some (.ref _), some (.int x0), some (.int x1), some (.int x2), some (.int x3), none] (by decide) rfl (Nat.le_of_ble_eq_true rfl) ?_
  refine wp_aload_n (i := 0) dX3_addRequest_0 rfl rfl ?_
  refine wr_sheR (j := xt 1 n f) dX3_addRequest_1 hR f_X3_20 hn hf (Or.inr ⟨rfl, rfl⟩) ?_
  refine wp_callV (N := mX4_addRow) (as := []) dX3_addRequest_4 l_X3_32 v_X4_addRow rfl (hR.oT (vt1 hn hf)) rfl (by decide) (s_addRow hR (vt1 hn hf) hl) (fun v hp1 hq => ?_)
  obtain ⟨rfl, q0, hR0⟩ := hq
  refine wp_istore dX3_addRequest_7 (Nat.le_of_ble_eq_true rfl) ?_
  refine wp_aload_n (i := 0) dX3_addRequest_9 rfl rfl ?_
  refine wr_sheR (j := xt 1 n f) dX3_addRequest_10 hR0 f_X3_20 hn hf (Or.inr ⟨rfl, rfl⟩) ?_
  refine wp_iload dX3_addRequest_13 rfl ?_
  refine wp_iconst (v := 0) dX3_addRequest_15 rfl ?_
  refine wp_iload_n (i := 1) dX3_addRequest_16 rfl rfl ?_
  refine wp_callV (N := mX4_put) (as := [.int (nI (gT M 1 n f).length), .int (nI 0), .int x0]) dX3_addRequest_17 l_X3_36 v_X4_put rfl (hR0.oT (vt1 hn hf)) rfl (by decide) (s_putLast hR0 (vt1 hn hf) (c := 0) (by decide) x0) (fun v hp1 hq => ?_)
  obtain ⟨rfl, hR1⟩ := hq
  refine wp_aload_n (i := 0) dX3_addRequest_20 rfl rfl ?_
  refine wr_sheR (j := xt 1 n f) dX3_addRequest_21 hR1 f_X3_20 hn hf (Or.inr ⟨rfl, rfl⟩) ?_
  refine wp_iload dX3_addRequest_24 rfl ?_
  refine wp_iconst (v := 1) dX3_addRequest_26 rfl ?_
  refine wp_iload_n (i := 2) dX3_addRequest_27 rfl rfl ?_
  refine wp_callV (N := mX4_put) (as := [.int (nI (gT M 1 n f).length), .int (nI 1), .int x1]) dX3_addRequest_28 l_X3_36 v_X4_put rfl (hR1.oT (vt1 hn hf)) rfl (by decide) (s_putLast hR1 (vt1 hn hf) (c := 1) (by decide) x1) (fun v hp1 hq => ?_)
  obtain ⟨rfl, hR2⟩ := hq
  refine wp_aload_n (i := 0) dX3_addRequest_31 rfl rfl ?_
  refine wr_sheR (j := xt 1 n f) dX3_addRequest_32 hR2 f_X3_20 hn hf (Or.inr ⟨rfl, rfl⟩) ?_
  refine wp_iload dX3_addRequest_35 rfl ?_
  refine wp_iconst (v := 2) dX3_addRequest_37 rfl ?_
  refine wp_iload_n (i := 3) dX3_addRequest_38 rfl rfl ?_
  refine wp_callV (N := mX4_put) (as := [.int (nI (gT M 1 n f).length), .int (nI 2), .int x2]) dX3_addRequest_39 l_X3_36 v_X4_put rfl (hR2.oT (vt1 hn hf)) rfl (by decide) (s_putLast hR2 (vt1 hn hf) (c := 2) (by decide) x2) (fun v hp1 hq => ?_)
  obtain ⟨rfl, hR3⟩ := hq
  refine wp_aload_n (i := 0) dX3_addRequest_42 rfl rfl ?_
  refine wr_sheR (j := xt 1 n f) dX3_addRequest_43 hR3 f_X3_20 hn hf (Or.inr ⟨rfl, rfl⟩) ?_
  refine wp_iload dX3_addRequest_46 rfl ?_
  refine wp_iconst (v := 3) dX3_addRequest_48 rfl ?_
  refine wp_iload dX3_addRequest_49 rfl ?_
  refine wp_callV (N := mX4_put) (as := [.int (nI (gT M 1 n f).length), .int (nI 3), .int x3]) dX3_addRequest_51 l_X3_36 v_X4_put rfl (hR3.oT (vt1 hn hf)) rfl (by decide) (s_putLast hR3 (vt1 hn hf) (c := 3) (by decide) x3) (fun v hp1 hq => ?_)
  obtain ⟨rfl, hR4⟩ := hq
  refine wp_iload dX3_addRequest_54 rfl ?_
  refine wp_ret (v := some (.int _)) dX3_addRequest_56 rfl ?_
  exact ⟨trivial, rfl, _, rfl, rfl, rfl, rfl, hR4⟩
/-- the set of those that have a lease -/
def lsS (M : MS) (n f : Nat) (x : Int32) : Nat → Int32
  | 0 => 0
  | k + 1 => if x < gV M 5 n f 0 k then lsS M n f x k ||| (1 <<< (nI k &&& 31)) else lsS M n f x k
theorem w_lset_4 (hR : Rep hp M) (hn : n < 2) (hf : f < 12) (x : Int32) : ∀ (m o : Nat), 4 - o = m → o ≤ 4 → WP L xs (d + 1) mX3_leasedSet 4 [some (.ref (xi 4 n f 0)), some (.int x), some (.int (lsS M n f x o)), some (.int (nI o))] [] hp (fun v hp' => retOk mX3_leasedSet.2.2.2 v ∧ hp' = hp ∧ v = some (.int (lsS M n f x 4))) := by
  intro m
  induction m using Nat.strongRecOn with
  | ind m ih =>
    intro o hm ho0
    subst hm
    refine wp_iload_n (i := 3) dX3_leasedSet_4 rfl rfl ?_
    refine wp_iconst (v := 4) dX3_leasedSet_5 rfl ?_
    refine wp_icmp_ge (tgt := 30) dX3_leasedSet_6 (by decide) (fun c6 => ?_) (fun c6 => ?_)
    · skip
      have ho4 : o = 4 := by
        rcases Nat.lt_or_ge o 4 with q | q
        · exact absurd (nI_lt q (by decide)) c6
        · omega
      subst ho4
      refine wp_iload_n (i := 2) dX3_leasedSet_30 rfl rfl ?_
      refine wp_ret (v := some (.int _)) dX3_leasedSet_31 rfl ?_
      exact ⟨trivial, rfl, rfl⟩
    · skip
      refine wp_aload_n (i := 0) dX3_leasedSet_9 rfl rfl ?_
      refine wp_iload_n (i := 3) dX3_leasedSet_10 rfl rfl ?_
      refine wp_iload_n (i := 1) dX3_leasedSet_11 rfl rfl ?_
      have ho9 : o < 4 := (nI_ltI (by omega) (by decide)).mp c6
      refine wp_callV (N := mX3_isLeased) dX3_leasedSet_12 l_X3_28 v_X3_isLeased rfl (hR.oo (vs4 hn hf (k := 0) (by decide)) (by decide)) rfl (by decide) (s_isLeased hR hn hf ho9 x) (fun v hp1 hq => ?_)
      obtain ⟨rfl, rfl⟩ := hq
      refine wp_if_eq (tgt := 24) dX3_leasedSet_15 (by decide) (fun c15 => ?_) (fun c15 => ?_)
      · skip
        refine wp_iinc (v := nI (o + 1)) dX3_leasedSet_24 rfl (nI_1 _) ?_
        refine wp_goto (tgt := 4) dX3_leasedSet_27 (by decide) ?_
        have e9 : lsS M n f x (o + 1) = lsS M n f x o := if_neg (bI_eq.mp c15)
        have h9 := ih (4 - (o + 1)) (by omega) (o + 1) rfl (by omega)
        rw [e9] at h9
        exact h9
      · skip
        refine wp_iload_n (i := 2) dX3_leasedSet_18 rfl rfl ?_
        refine wp_iconst (v := 1) dX3_leasedSet_19 rfl ?_
        refine wp_iload_n (i := 3) dX3_leasedSet_20 rfl rfl ?_
        refine wp_ishl dX3_leasedSet_21 ?_
        refine wp_ior dX3_leasedSet_22 ?_
        refine wp_istore_n (i := 2) dX3_leasedSet_23 rfl (Nat.le_of_ble_eq_true rfl) ?_
        refine wp_iinc (v := nI (o + 1)) dX3_leasedSet_24 rfl (nI_1 _) ?_
        refine wp_goto (tgt := 4) dX3_leasedSet_27 (by decide) ?_
        have e9 : lsS M n f x (o + 1) = lsS M n f x o ||| (1 <<< (nI o &&& 31)) := if_pos (bI_ne.mp c15)
        have h9 := ih (4 - (o + 1)) (by omega) (o + 1) rfl (by omega)
        rw [e9] at h9
        exact h9
/-- the set of those that have a lease, asked -/
theorem s_leasedSet (hR : Rep hp M) (hn : n < 2) (hf : f < 12) (x : Int32) : WM L xs (d + 1) mX3_leasedSet [.ref (xi 4 n f 0), .int x] hp (fun v hp' => hp' = hp ∧ v = some (.int (lsS M n f x 4))) := by
  refine WM.of [some (.ref _), some (.int x), none, none] (by decide) rfl (Nat.le_of_ble_eq_true rfl) ?_
  refine wp_iconst (v := 0) dX3_leasedSet_0 rfl ?_
  refine wp_istore_n (i := 2) dX3_leasedSet_1 rfl (Nat.le_of_ble_eq_true rfl) ?_
  refine wp_iconst (v := 0) dX3_leasedSet_2 rfl ?_
  refine wp_istore_n (i := 3) dX3_leasedSet_3 rfl (Nat.le_of_ble_eq_true rfl) ?_
  exact w_lset_4 hR hn hf x 4 0 rfl (by decide)
/-- what a shelf tells -/
def shTell (M : MS) (n f k : Nat) (x : Int32) : Int32 := match k with
  | 0 => gV M 4 n f 0 0
  | 1 => gV M 4 n f 0 1
  | 2 => nI (gT M 1 n f).length
  | _ => lsS M n f x 4
/-- asked -/
theorem s_shTell (hR : Rep hp M) (hn : n < 2) (hf : f < 12) (x : Int32) {k : Nat} (hk : k < 4) : WM L xs (d + 2) mX3_tell [.ref (xi 4 n f 0), .int (nI k), .int x] hp (fun v hp' => hp' = hp ∧ v = some (.int (shTell M n f k x))) := by
  refine WM.of [some (.ref _), some (.int (nI k)), some (.int x)] (by decide) rfl (Nat.le_of_ble_eq_true rfl) ?_
  rcases (show k = 0 ∨ k = 1 ∨ k = 2 ∨ k = 3 by omega) with rfl | rfl | rfl | rfl
  · skip
    refine wp_iload_n (i := 1) dX3_tell_0 rfl rfl ?_
    refine wp_tabIn dX3_tell_1 (by decide) (by decide) (off := 27) (tgt := 28) (by decide) (by decide) ?_
    refine wp_aload_n (i := 0) dX3_tell_28 rfl rfl ?_
    refine wr_get (g := 4) (n := n) (a := f) (b := 0) (k := 0) dX3_tell_29 hR f_X3_40 (vs4 hn hf (by decide)) (by decide) (by decide) ?_
    refine wp_ret (v := some (.int _)) dX3_tell_32 rfl ?_
    exact ⟨trivial, rfl, rfl⟩
  · skip
    refine wp_iload_n (i := 1) dX3_tell_0 rfl rfl ?_
    refine wp_tabIn dX3_tell_1 (by decide) (by decide) (off := 32) (tgt := 33) (by decide) (by decide) ?_
    refine wp_aload_n (i := 0) dX3_tell_33 rfl rfl ?_
    refine wr_get (g := 4) (n := n) (a := f) (b := 0) (k := 1) dX3_tell_34 hR f_X3_44 (vs4 hn hf (by decide)) (by decide) (by decide) ?_
    refine wp_ret (v := some (.int _)) dX3_tell_37 rfl ?_
    exact ⟨trivial, rfl, rfl⟩
  · skip
    refine wp_iload_n (i := 1) dX3_tell_0 rfl rfl ?_
    refine wp_tabIn dX3_tell_1 (by decide) (by decide) (off := 37) (tgt := 38) (by decide) (by decide) ?_
    refine wp_aload_n (i := 0) dX3_tell_38 rfl rfl ?_
    refine wr_sheR (j := xt 1 n f) dX3_tell_39 hR f_X3_20 hn hf (Or.inr ⟨rfl, rfl⟩) ?_
    refine wr_rows dX3_tell_42 hR f_X3_47 (vt1 hn hf) ?_
    refine wp_ret (v := some (.int _)) dX3_tell_45 rfl ?_
    exact ⟨trivial, rfl, rfl⟩
  · skip
    refine wp_iload_n (i := 1) dX3_tell_0 rfl rfl ?_
    refine wp_tabOut dX3_tell_1 (tgt := 46) (by decide) (by decide) ?_
    refine wp_aload_n (i := 0) dX3_tell_46 rfl rfl ?_
    refine wp_iload_n (i := 2) dX3_tell_47 rfl rfl ?_
    refine wp_callV (N := mX3_leasedSet) dX3_tell_48 l_X3_50 v_X3_leasedSet rfl (hR.oo (vs4 hn hf (k := 0) (by decide)) (by decide)) rfl (by decide) (s_leasedSet hR hn hf x) (fun v hp1 hq => ?_)
    obtain ⟨rfl, rfl⟩ := hq
    refine wp_ret (v := some (.int _)) dX3_tell_51 rfl ?_
    exact ⟨trivial, rfl, rfl⟩
end SHELF
end
section
/-! ===== sums, and the room ===== -/
def sN : Nat → (Nat → Nat) → Nat
  | 0, _ => 0
  | k + 1, f => sN k f + f k
theorem sN_congr {k : Nat} {f g : Nat → Nat} (h : ∀ i, i < k → f i = g i) : sN k f = sN k g := by
  induction k with
  | zero => rfl
  | succ k ih => show sN k f + f k = sN k g + g k; rw [ih (fun i hi => h i (by omega)), h k (by omega)]
theorem sN_le {k : Nat} {f g : Nat → Nat} (h : ∀ i, i < k → f i ≤ g i) : sN k f ≤ sN k g := by
  induction k with
  | zero => exact Nat.le_refl _
  | succ k ih => have h1 := ih (fun i hi => h i (by omega)); have h2 := h k (by omega); show sN k f + f k ≤ sN k g + g k; omega
theorem sN_get {k i : Nat} {f : Nat → Nat} (h : i < k) : f i ≤ sN k f := by
  induction k with
  | zero => exact absurd h (Nat.not_lt_zero i)
  | succ k ih =>
    show f i ≤ sN k f + f k
    rcases Nat.lt_or_ge i k with q | q
    · have := ih q; omega
    · have e : i = k := by omega
      subst e; omega
theorem sN_bd {k b : Nat} {f : Nat → Nat} (h : ∀ i, i < k → f i ≤ b) : sN k f ≤ k * b := by
  induction k with
  | zero => exact Nat.zero_le _
  | succ k ih => have h1 := ih (fun i hi => h i (by omega)); have h2 := h k (by omega); show sN k f + f k ≤ _; rw [Nat.succ_mul]; omega
theorem sN_upd {k i : Nat} {f g : Nat → Nat} (hi : i < k) (h : ∀ j, j < k → j ≠ i → g j = f j) : sN k g + f i = sN k f + g i := by
  induction k with
  | zero => exact absurd hi (Nat.not_lt_zero i)
  | succ k ih =>
    show sN k g + g k + f i = sN k f + f k + g i
    rcases Nat.lt_or_ge i k with q | q
    · have h1 := ih q (fun j hj hne => h j (by omega) hne)
      have h2 := h k (by omega) (by omega)
      omega
    · have e : i = k := by omega
      subst e
      have h1 : sN i g = sN i f := sN_congr (fun j hj => h j (by omega) (by omega))
      omega
theorem sN_zero {k : Nat} {f : Nat → Nat} (h : ∀ i, i < k → f i = 0) : sN k f = 0 := by
  induction k with
  | zero => rfl
  | succ k ih => show sN k f + f k = 0; rw [ih (fun i hi => h i (by omega)), h k (by omega)]
/-- the rooms that a table can have -/
def ch (c : Nat) : Prop := ∃ j, c + 2 = 10 * 2 ^ j
theorem ch_next {c : Nat} (h : ch c) : ch (2 * (c + 1)) := by
  obtain ⟨j, hj⟩ := h
  exact ⟨j + 1, by rw [Nat.pow_succ]; omega⟩
theorem ch_lt {c c' : Nat} (h : ch c) (h' : ch c') (hlt : c < c') : 2 * c ≤ c' := by
  obtain ⟨j, hj⟩ := h
  obtain ⟨i, hi⟩ := h'
  rcases Nat.lt_or_ge j i with q | q
  · have h1 : 2 ^ (j + 1) ≤ 2 ^ i := Nat.pow_le_pow_right (by decide) q
    rw [Nat.pow_succ] at h1
    omega
  · have h1 : 2 ^ i ≤ 2 ^ j := Nat.pow_le_pow_right (by decide) q
    omega
def cB (y : Nat) : Nat := match y with
  | 0 => 40
  | 1 => 2600
  | _ => 22700
/-- all the rooms of the tables; all their slots, twice -/
def SC (M : MS) : Nat := sN 2 (fun n => sN 4 (fun a => gP M 0 n a) + sN 12 (fun a => gP M 1 n a) + sN 9 (fun a => gP M 2 n a))
def SQ (M : MS) : Nat := sN 2 (fun n => sN 4 (fun a => 4 * gP M 0 n a) + sN 12 (fun a => 8 * gP M 1 n a) + sN 9 (fun a => 16 * gP M 2 n a))
theorem SC_upd {M M' : MS} {y n a : Nat} (ht : vt y n a) (h : ∀ y' n' a', ¬ (y' = y ∧ n' = n ∧ a' = a) → gP M' y' n' a' = gP M y' n' a') : SC M' + gP M y n a = SC M + gP M' y n a ∧ SQ M' + 2 * tw y * gP M y n a = SQ M + 2 * tw y * gP M' y n a := by
  obtain ⟨hn, hy⟩ := ht
  have e1 := fun (g : Nat → MS → Nat) (h9 : ∀ n', n' < 2 → n' ≠ n → g n' M' = g n' M) => sN_upd (k := 2) (i := n) (f := fun n' => g n' M) (g := fun n' => g n' M') hn h9
  have e0 : ∀ n', n' ≠ n → ∀ y a, gP M' y n' a = gP M y n' a := fun n' hne y' a' => h y' n' a' (fun q => hne q.2.1)
  have eC := e1 (fun n M => sN 4 (fun a => gP M 0 n a) + sN 12 (fun a => gP M 1 n a) + sN 9 (fun a => gP M 2 n a)) (fun n' _ hne => by simp only [e0 n' hne])
  have eQ := e1 (fun n M => sN 4 (fun a => 4 * gP M 0 n a) + sN 12 (fun a => 8 * gP M 1 n a) + sN 9 (fun a => 16 * gP M 2 n a)) (fun n' _ hne => by simp only [e0 n' hne])
  have c0 : ¬ y = 0 → sN 4 (fun a => gP M' 0 n a) = sN 4 (fun a => gP M 0 n a) ∧ sN 4 (fun a => 4 * gP M' 0 n a) = sN 4 (fun a => 4 * gP M 0 n a) := fun hne => ⟨sN_congr (fun i _ => h 0 n i (fun q => hne q.1.symm)), sN_congr (fun i _ => by rw [h 0 n i (fun q => hne q.1.symm)])⟩
  have c1 : ¬ y = 1 → sN 12 (fun a => gP M' 1 n a) = sN 12 (fun a => gP M 1 n a) ∧ sN 12 (fun a => 8 * gP M' 1 n a) = sN 12 (fun a => 8 * gP M 1 n a) := fun hne => ⟨sN_congr (fun i _ => h 1 n i (fun q => hne q.1.symm)), sN_congr (fun i _ => by rw [h 1 n i (fun q => hne q.1.symm)])⟩
  have c2 : ¬ y = 2 → sN 9 (fun a => gP M' 2 n a) = sN 9 (fun a => gP M 2 n a) ∧ sN 9 (fun a => 16 * gP M' 2 n a) = sN 9 (fun a => 16 * gP M 2 n a) := fun hne => ⟨sN_congr (fun i _ => h 2 n i (fun q => hne q.1.symm)), sN_congr (fun i _ => by rw [h 2 n i (fun q => hne q.1.symm)])⟩
  simp only [SC, SQ]
  match y, hy with
  | 0, ha =>
    have ha : a < 4 := ha
    have u := sN_upd (k := 4) (i := a) (f := fun a => gP M 0 n a) (g := fun a => gP M' 0 n a) ha (fun j _ hne => h 0 n j (fun q => hne q.2.2))
    have u2 := sN_upd (k := 4) (i := a) (f := fun a => 4 * gP M 0 n a) (g := fun a => 4 * gP M' 0 n a) ha (fun j _ hne => by show 4 * _ = 4 * _; rw [h 0 n j (fun q => hne q.2.2)])
    have k1 := c1 (by decide)
    have k2 := c2 (by decide)
    simp only [tw] at *
    constructor <;> omega
  | 1, ha =>
    have ha : a < 12 := ha
    have u := sN_upd (k := 12) (i := a) (f := fun a => gP M 1 n a) (g := fun a => gP M' 1 n a) ha (fun j _ hne => h 1 n j (fun q => hne q.2.2))
    have u2 := sN_upd (k := 12) (i := a) (f := fun a => 8 * gP M 1 n a) (g := fun a => 8 * gP M' 1 n a) ha (fun j _ hne => by show 8 * _ = 8 * _; rw [h 1 n j (fun q => hne q.2.2)])
    have k1 := c0 (by decide)
    have k2 := c2 (by decide)
    simp only [tw] at *
    constructor <;> omega
  | 2, ha =>
    have ha : a < 9 := ha
    have u := sN_upd (k := 9) (i := a) (f := fun a => gP M 2 n a) (g := fun a => gP M' 2 n a) ha (fun j _ hne => h 2 n j (fun q => hne q.2.2))
    have u2 := sN_upd (k := 9) (i := a) (f := fun a => 16 * gP M 2 n a) (g := fun a => 16 * gP M' 2 n a) ha (fun j _ hne => by show 16 * _ = 16 * _; rw [h 2 n j (fun q => hne q.2.2)])
    have k1 := c0 (by decide)
    have k2 := c1 (by decide)
    simp only [tw] at *
    constructor <;> omega
  | k + 3, ha => exact ha.elim
/-- what has been made is within what the tables' rooms account for -/
def RI (zB tB : Nat) (M : MS) : Prop := mz M ≤ zB + SC M ∧ mt M ≤ tB + SQ M ∧ ∀ y n a, vt y n a → ch (gP M y n a) ∧ gP M y n a ≤ cB y
theorem RI.bound {zB tB : Nat} {M : MS} (h : RI zB tB M) : mz M ≤ zB + 471520 ∧ mt M ≤ tB + 7038080 := by
  obtain ⟨h1, h2, h3⟩ := h
  have b : SC M ≤ 2 * 235760 := sN_bd (fun n hn => by
    have b0 : sN 4 (fun a => gP M 0 n a) ≤ 4 * 40 := sN_bd (fun a ha => (h3 0 n a ⟨hn, ha⟩).2)
    have b1 : sN 12 (fun a => gP M 1 n a) ≤ 12 * 2600 := sN_bd (fun a ha => (h3 1 n a ⟨hn, ha⟩).2)
    have b2 : sN 9 (fun a => gP M 2 n a) ≤ 9 * 22700 := sN_bd (fun a ha => (h3 2 n a ⟨hn, ha⟩).2)
    show sN 4 _ + sN 12 _ + sN 9 _ ≤ _
    omega)
  have b' : SQ M ≤ 2 * 3519040 := sN_bd (fun n hn => by
    have b0 : sN 4 (fun a => 4 * gP M 0 n a) ≤ 4 * 160 := sN_bd (fun a ha => by have := (h3 0 n a ⟨hn, ha⟩).2; simp only [cB] at this; omega)
    have b1 : sN 12 (fun a => 8 * gP M 1 n a) ≤ 12 * 20800 := sN_bd (fun a ha => by have := (h3 1 n a ⟨hn, ha⟩).2; simp only [cB] at this; omega)
    have b2 : sN 9 (fun a => 16 * gP M 2 n a) ≤ 9 * 363200 := sN_bd (fun a ha => by have := (h3 2 n a ⟨hn, ha⟩).2; simp only [cB] at this; omega)
    show sN 4 _ + sN 12 _ + sN 9 _ ≤ _
    omega)
  omega
theorem RI.of {zB tB : Nat} {M M' : MS} (h : RI zB tB M) (h1 : mz M' = mz M) (h2 : mt M' = mt M) (h3 : ∀ y n a, gP M' y n a = gP M y n a) : RI zB tB M' := by
  have eC : SC M' = SC M := by simp only [SC, h3]
  have eQ : SQ M' = SQ M := by simp only [SQ, h3]
  obtain ⟨k1, k2, k3⟩ := h
  refine ⟨by rw [h1, eC]; exact k1, by rw [h2, eQ]; exact k2, fun y n a ht => ?_⟩
  rw [h3]
  exact k3 y n a ht
/-- one table's room has grown -/
theorem RI.gr {zB tB : Nat} {M : MS} (h : RI zB tB M) {y n a : Nat} (ht : vt y n a) {r : List Row} {c z t : Nat} (hg : Gr (tw y) (gP M y n a) (mz M) (mt M) c z t) (hc : gP M y n a < c → c ≤ cB y) : RI zB tB (sW M z t y n a r c) := by
  obtain ⟨k1, k2, k3⟩ := h
  have hu := SC_upd (M := M) (M' := sW M z t y n a r c) ht (fun y' n' a' hne => gP_sWn hne)
  rw [gP_sW] at hu
  have h9 := (k3 y n a ht)
  have hgrow : gP M y n a ≤ c := by rcases hg with ⟨e, -, -⟩ | ⟨e, -, -⟩ <;> omega
  have hw : 2 * tw y * c = tw y * c + tw y * c := by rw [Nat.mul_comm 2, Nat.mul_assoc, Nat.two_mul, Nat.mul_add]
  have hw0 : 2 * tw y * gP M y n a = tw y * (2 * gP M y n a) := by rw [Nat.mul_comm 2, Nat.mul_assoc]
  refine ⟨?_, ?_, fun y' n' a' ht' => ?_⟩
  · show z ≤ _
    rcases hg with ⟨e, ez, -⟩ | ⟨e, ez, -⟩ <;> omega
  · show t ≤ _
    rcases hg with ⟨e, -, et⟩ | ⟨e, -, et⟩
    · subst e; omega
    · have h1 : tw y * (2 * gP M y n a) ≤ tw y * c := Nat.mul_le_mul_left _ (by omega)
      omega
  · by_cases hq : y' = y ∧ n' = n ∧ a' = a
    · obtain ⟨rfl, rfl, rfl⟩ := hq
      rw [gP_sW]
      rcases hg with ⟨e, -, -⟩ | ⟨e, -, -⟩
      · rw [e]; exact h9
      · exact ⟨by rw [e]; exact ch_next h9.1, hc (by omega)⟩
    · rw [gP_sWn hq]; exact k3 y' n' a' ht'
theorem RI.add {zB tB : Nat} {hp : AH} {M : MS} (h : RI zB tB M) (hR : Rep hp M) {y n a : Nat} (ht : vt y n a) {r : List Row} (hl : 2 * ((gT M y n a).length + 1) ≤ cB y) : RI zB tB (sW M (aZ M y n a) (aT M y n a) y n a r (aP M y n a)) := by
  refine h.gr ht (Gr.add hR ht) (fun hlt => ?_)
  unfold aP at hlt ⊢
  by_cases hq : (gT M y n a).length < gP M y n a
  · rw [if_pos hq] at hlt; omega
  · rw [if_neg hq]; exact hl
/-- rows as another table has them -/
theorem RI.copy {zB tB : Nat} {hp : AH} {M : MS} (h : RI zB tB M) (hR : Rep hp M) {y n a n' a' : Nat} (ht : vt y n a) (ht' : vt y n' a') {r : List Row} : RI zB tB (sW M (cZ M y n a n' a') (cQ M y n a n' a') y n a r (cP M y n a n' a')) := by
  obtain ⟨k1, k2, k3⟩ := h
  unfold cZ cQ cP
  by_cases hq : (gT M y n' a').length ≤ gP M y n a
  · rw [if_pos hq, if_pos hq, if_pos hq]
    exact RI.gr ⟨k1, k2, k3⟩ ht (Or.inl ⟨rfl, rfl, rfl⟩) (fun hlt => absurd hlt (Nat.lt_irrefl _))
  · rw [if_neg hq, if_neg hq, if_neg hq]
    have hlt : gP M y n a < gP M y n' a' := by have := (hR.T ht').2.2.2.2.2.2.2.1; omega
    have h2 := ch_lt (k3 y n a ht).1 (k3 y n' a' ht').1 hlt
    have hu := SC_upd (M := M) (M' := sW M (mz M + 1) (mt M + tw y * gP M y n' a') y n a r (gP M y n' a')) ht (fun y' n' a' hne => gP_sWn hne)
    rw [gP_sW] at hu
    have hw : 2 * tw y * gP M y n' a' = tw y * gP M y n' a' + tw y * gP M y n' a' := by rw [Nat.mul_comm 2, Nat.mul_assoc, Nat.two_mul, Nat.mul_add]
    have hw0 : 2 * tw y * gP M y n a = tw y * (2 * gP M y n a) := by rw [Nat.mul_comm 2, Nat.mul_assoc]
    have h3 : tw y * (2 * gP M y n a) ≤ tw y * gP M y n' a' := Nat.mul_le_mul_left _ h2
    refine ⟨?_, ?_, fun y2 n2 a2 ht2 => ?_⟩
    · show mz M + 1 ≤ _
      omega
    · show mt M + _ ≤ _
      omega
    · by_cases hq : y2 = y ∧ n2 = n ∧ a2 = a
      · obtain ⟨rfl, rfl, rfl⟩ := hq
        rw [gP_sW]
        exact k3 _ _ _ ht'
      · rw [gP_sWn hq]; exact k3 y2 n2 a2 ht2
end
section
/-! ===== what is on its way, counted ===== -/
def vN (x : Int32) : Nat := x.toInt.toNat
theorem vN_nI {k : Nat} (h : k < 2 ^ 31) : vN (nI k) = k := by
  unfold vN nI
  rw [Int32.toInt_ofNat_of_lt (by omega)]
  rfl
def cOk (x : Int32) : Prop := x = nI (vN x) ∧ vN x ≤ 9999
theorem cOk_nI {k : Nat} (h : k ≤ 9999) : cOk (nI k) := by unfold cOk; rw [vN_nI (by omega)]; exact ⟨rfl, h⟩
def bz (x : Int32) : Nat := if x = 0 then 0 else 1
theorem bz_le (x : Int32) : bz x ≤ 1 := by unfold bz; split <;> omega
def kdTh (q : Row) : Bool := !(q 1 == 2) && !(q 1 == 6)
def kdR (q : Row) : Bool := q 1 == 0 || q 1 == 1
def kdC (c : Nat) (q : Row) : Bool := q 1 == 6 && q 0 == nI c
def kdA (c : Nat) (q : Row) : Bool := q 1 == 2 && q 0 == nI c
theorem kdR_th {q : Row} (h : kdR q = true) : kdTh q = true := by
  unfold kdR at h; unfold kdTh
  simp only [Bool.or_eq_true, beq_iff_eq] at h
  rcases h with h | h <;> rw [h] <;> decide
theorem kdTh_C {q : Row} (h : kdTh q = true) (c : Nat) : kdC c q = false ∧ kdA c q = false := by
  unfold kdTh at h; unfold kdC kdA
  simp only [Bool.and_eq_true, Bool.not_eq_true', beq_eq_false_iff_ne, ne_eq] at h
  rw [beq_eq_false_iff_ne.mpr h.1, beq_eq_false_iff_ne.mpr h.2]
  exact ⟨rfl, rfl⟩
theorem kdC_th {q : Row} {c : Nat} (h : kdC c q = true) : kdTh q = false ∧ kdR q = false ∧ (∀ c', kdA c' q = false) ∧ q 0 = nI c := by
  unfold kdC at h
  simp only [Bool.and_eq_true, beq_iff_eq] at h
  unfold kdTh kdR
  refine ⟨by rw [h.1]; decide, by rw [h.1]; decide, fun c' => by unfold kdA; rw [h.1]; rfl, h.2⟩
theorem kdA_th {q : Row} {c : Nat} (h : kdA c q = true) : kdTh q = false ∧ kdR q = false ∧ (∀ c', kdC c' q = false) ∧ q 0 = nI c := by
  unfold kdA at h
  simp only [Bool.and_eq_true, beq_iff_eq] at h
  unfold kdTh kdR
  refine ⟨by rw [h.1]; decide, by rw [h.1]; decide, fun c' => by unfold kdC; rw [h.1]; rfl, h.2⟩
def sl (S : Nat → List Row) (clk r k : Nat) : List Row := if k = clk % 9 then (S k).drop r else S k
/-- the budgets: threads; calls of this clock; acks of this clock; versions; each slot; conflicts -/
def BB (S : Nat → List Row) (rq fl ff : Nat) (V : Nat → Nat) (G : Nat → Int32) (clk K : Nat) (D : Nat → Nat) (r j s : Nat) (e : Nat → Nat) : Prop :=
  (sN 9 (fun k => (sl S clk r k).countP kdTh) + rq + s ≤ fl + 24 * K + j ∧ K ≤ 48 ∧ fl ≤ 96 ∧ ff ≤ 12) ∧
  (∀ c, c < 4 → (S ((clk + D c) % 9)).countP (kdC c) + rq + ((S (clk % 9)).drop r).countP kdR + e c ≤ 1248 + ff + j) ∧
  (∀ c, c < 4 → (S ((clk + D c) % 9)).countP (kdA c) + ((S (clk % 9)).drop r).countP (kdC c) ≤ 1260) ∧
  (∀ f, f < 12 → V f + rq + ((S (clk % 9)).drop r).countP kdR ≤ 1248 * (clk + 1) + j) ∧
  (∀ k c, k < 9 → c < 4 → (S k).countP (kdC c) ≤ 1260 ∧ (S k).countP (kdA c) ≤ 1260) ∧
  (∀ c, c < 4 → G c = nI (vN (G c)) ∧ vN (G c) + ((S (clk % 9)).length - r) ≤ 12000 * (clk + 1))
section BUDGET
variable {S : Nat → List Row} {rq fl ff : Nat} {V : Nat → Nat} {G : Nat → Int32} {clk K : Nat} {D : Nat → Nat} {r j s : Nat} {e : Nat → Nat}
/-- other numbers -/
theorem BB.num (h : BB S rq fl ff V G clk K D r j s e) {rq' fl' ff' j' s' : Nat} {V' e' : Nat → Nat} (h1 : rq' + s' + fl + j ≤ rq + s + fl' + j') (hf : fl' ≤ 96 ∧ ff' ≤ 12) (h2 : ∀ c, c < 4 → rq' + e' c + ff + j ≤ rq + e c + ff' + j') (h4 : ∀ f, f < 12 → V' f + rq' + j ≤ V f + rq + j') : BB S rq' fl' ff' V' G clk K D r j' s' e' := by
  obtain ⟨⟨a1, a2, -, -⟩, b, c, d, x, y⟩ := h
  refine ⟨⟨by omega, a2, hf.1, hf.2⟩, fun c' hc => ?_, c, fun f hf => ?_, x, y⟩
  · have := b c' hc; have := h2 c' hc; omega
  · have := d f hf; have := h4 f hf; omega
def ap (S : Nat → List Row) (k : Nat) (q : Row) : Nat → List Row := fun k' => if k' = k then S k ++ [q] else S k'
theorem ap_ne {k k' : Nat} {q : Row} (h : k' ≠ k) : ap S k q k' = S k' := if_neg h
theorem ap_eq {k : Nat} {q : Row} : ap S k q k = S k ++ [q] := if_pos rfl
theorem ap_cf {k k' : Nat} {q : Row} {p : Row → Bool} (h : p q = false) : (ap S k q k').countP p = (S k').countP p := by
  by_cases hk : k' = k
  · subst hk; rw [ap_eq, List.countP_append, List.countP_singleton, if_neg (by rw [h]; decide), Nat.add_zero]
  · rw [ap_ne hk]
theorem ap_ct {k : Nat} {q : Row} {p : Row → Bool} (h : p q = true) : (ap S k q k).countP p = (S k).countP p + 1 := by
  rw [ap_eq, List.countP_append, List.countP_singleton, if_pos h]
theorem ap_le {k k' : Nat} {q : Row} {p : Row → Bool} : (ap S k q k').countP p ≤ (S k').countP p + 1 := by
  rcases h : p q with - | -
  · rw [ap_cf h]; omega
  · by_cases hk : k' = k
    · subst hk; rw [ap_ct h]; exact Nat.le_refl _
    · rw [ap_ne hk]; omega
theorem sl_ap {k k' : Nat} {q : Row} (hk : k ≠ clk % 9) : sl (ap S k q) clk r k' = ap (sl S clk r) k q k' := by
  by_cases h : k' = k
  · subst h; rw [ap_eq]; unfold sl; rw [if_neg hk, if_neg hk, ap_eq]
  · rw [ap_ne h]; unfold sl; rw [ap_ne h]
/-- a thing of a thread is sent -/
theorem BB.ap_th (h : BB S rq fl ff V G clk K D r j (s + 1) e) {k : Nat} {q : Row} (hk : k < 9) (hc : k ≠ clk % 9) (hq : kdTh q = true) : BB (ap S k q) rq fl ff V G clk K D r j s e := by
  obtain ⟨⟨a1, a2, a3, a4⟩, b, c, d, x, y⟩ := h
  have hcur : ap S k q (clk % 9) = S (clk % 9) := ap_ne (fun q => hc q.symm)
  have hu := sN_upd (k := 9) (i := k) (f := fun k => (sl S clk r k).countP kdTh) (g := fun k' => (sl (ap S k q) clk r k').countP kdTh) hk (fun i _ hne => by show (sl (ap S k q) clk r i).countP kdTh = _; rw [sl_ap hc, ap_ne hne])
  have hu2 : (sl (ap S k q) clk r k).countP kdTh = (sl S clk r k).countP kdTh + 1 := by rw [sl_ap hc, ap_ct hq]
  refine ⟨⟨by omega, a2, a3, a4⟩, fun c' hc' => ?_, fun c' hc' => ?_, fun f hf => ?_, fun k' c' hk' hc' => ?_, fun c' hc' => ?_⟩
  · rw [hcur, ap_cf (kdTh_C hq c').1]; exact b c' hc'
  · rw [hcur, ap_cf (kdTh_C hq c').2]; exact c c' hc'
  · rw [hcur]; exact d f hf
  · rw [ap_cf (kdTh_C hq c').1, ap_cf (kdTh_C hq c').2]; exact x k' c' hk' hc'
  · rw [hcur]; exact y c' hc'
/-- a CALL is sent -/
theorem BB.ap_C (h : BB S rq fl ff V G clk K D r j s e) (hj : j ≤ rq) {c0 : Nat} {q : Row} (hc0 : c0 < 4) (hD : 1 ≤ D c0 ∧ D c0 ≤ 8) (hq : kdC c0 q = true) {e' : Nat → Nat} (he : ∀ c, c < 4 → e' c + (if c = c0 then 1 else 0) ≤ e c) : BB (ap S ((clk + D c0) % 9) q) rq fl ff V G clk K D r j s e' := by
  obtain ⟨⟨a1, a2, a3, a4⟩, b, c, d, x, y⟩ := h
  have hc : (clk + D c0) % 9 ≠ clk % 9 := by omega
  obtain ⟨q1, q2, q3, q4⟩ := kdC_th hq
  have hcur : ap S ((clk + D c0) % 9) q (clk % 9) = S (clk % 9) := ap_ne (fun q => hc q.symm)
  have hne : ∀ c', c' < 4 → c' ≠ c0 → kdC c' q = false := by
    intro c' hc' hne
    rcases h9 : kdC c' q with - | -
    · rfl
    · have h8 := (kdC_th h9).2.2.2
      rw [q4] at h8
      exact absurd ((nI_eq (by omega) (by omega)).mp h8.symm) hne
  refine ⟨⟨?_, a2, a3, a4⟩, fun c' hc' => ?_, fun c' hc' => ?_, fun f hf => ?_, fun k' c' hk' hc' => ?_, fun c' hc' => ?_⟩
  · rw [sN_congr (g := fun k => (sl S clk r k).countP kdTh) (fun i _ => by show (sl (ap S _ q) clk r i).countP kdTh = _; rw [sl_ap hc, ap_cf q1])]; exact a1
  · rw [hcur]
    have hb := b c' hc'
    have hh := he c' hc'
    by_cases hcc : c' = c0
    · subst hcc
      rw [if_pos rfl] at hh
      rw [ap_ct hq]; omega
    · rw [if_neg hcc] at hh
      rw [ap_cf (hne c' hc' hcc)]; omega
  · rw [hcur, ap_cf (q3 c')]; exact c c' hc'
  · rw [hcur]; exact d f hf
  · rw [ap_cf (q3 c')]
    have hx := x k' c' hk' hc'
    refine ⟨?_, hx.2⟩
    by_cases hcc : c' = c0
    · subst hcc
      by_cases hkk : k' = (clk + D c') % 9
      · subst hkk
        have hb := b c' hc'
        have hh := he c' hc'
        rw [if_pos rfl] at hh
        rw [ap_ct hq]; omega
      · rw [ap_ne hkk]; exact hx.1
    · rw [ap_cf (hne c' hc' hcc)]; exact hx.1
  · rw [hcur]; exact y c' hc'
theorem drop_row {l : List Row} {r : Nat} {q0 : Row} (h : l[r]? = some q0) : l.drop r = q0 :: l.drop (r + 1) := by
  obtain ⟨h1, h2⟩ := List.getElem?_eq_some_iff.mp h
  rw [List.drop_eq_getElem_cons h1, h2]
/-- the next thing of those that come -/
theorem BB.next (h : BB S rq fl ff V G clk K D r j s e) {q0 : Row} (h0 : (S (clk % 9))[r]? = some q0) {s' : Nat} (hs : s' ≤ s + if kdTh q0 then 1 else 0) : BB S rq fl ff V G clk K D (r + 1) j s' e := by
  obtain ⟨⟨a1, a2, a3, a4⟩, b, c, d, x, y⟩ := h
  have hd := drop_row h0
  have h9 : clk % 9 < 9 := Nat.mod_lt _ (by decide)
  have hu := sN_upd (k := 9) (i := clk % 9) (f := fun k => (sl S clk r k).countP kdTh) (g := fun k' => (sl S clk (r + 1) k').countP kdTh) h9 (fun i _ hne => by show (sl S clk (r + 1) i).countP kdTh = (sl S clk r i).countP kdTh; unfold sl; rw [if_neg hne, if_neg hne])
  have e1 : (sl S clk r (clk % 9)).countP kdTh = (sl S clk (r + 1) (clk % 9)).countP kdTh + if kdTh q0 then 1 else 0 := by
    unfold sl; rw [if_pos rfl, if_pos rfl, hd, List.countP_cons]
  refine ⟨⟨by omega, a2, a3, a4⟩, fun c' hc' => ?_, fun c' hc' => ?_, fun f hf => ?_, x, fun c' hc' => ⟨(y c' hc').1, by have := (y c' hc').2; omega⟩⟩
  · have hb := b c' hc'
    rw [hd, List.countP_cons] at hb
    omega
  · have hb := c c' hc'
    rw [hd, List.countP_cons] at hb
    omega
  · have hb := d f hf
    rw [hd, List.countP_cons] at hb
    omega
/-- a request comes -/
theorem BB.req (h : BB S rq fl ff V G clk K D r j s e) {q0 : Row} (h0 : (S (clk % 9))[r]? = some q0) (hq : kdR q0 = true) : BB S (rq + 1) fl ff V G clk K D (r + 1) j s e := by
  have hn := h.next h0 (s' := s + 1) (by rw [if_pos (kdR_th hq)]; exact Nat.le_refl _)
  obtain ⟨⟨a1, a2, a3, a4⟩, b, c, d, x, y⟩ := h
  obtain ⟨⟨m1, -, -, -⟩, -, m3, -, -, m6⟩ := hn
  have hd := drop_row h0
  refine ⟨⟨by omega, a2, a3, a4⟩, fun c' hc' => ?_, m3, fun f hf => ?_, x, m6⟩
  · have hb := b c' hc'
    rw [hd, List.countP_cons, if_pos hq] at hb
    omega
  · have hb := d f hf
    rw [hd, List.countP_cons, if_pos hq] at hb
    omega
/-- a CALL comes, and an ACK is sent -/
theorem BB.ap_A (h : BB S rq fl ff V G clk K D r j s e) {q0 q : Row} {c0 : Nat} (h0 : (S (clk % 9))[r]? = some q0) (hq0 : kdC c0 q0 = true) (hq : kdA c0 q = true) (hc0 : c0 < 4) (hD : 1 ≤ D c0 ∧ D c0 ≤ 8) : BB (ap S ((clk + D c0) % 9) q) rq fl ff V G clk K D (r + 1) j s e := by
  have hn := h.next h0 (s' := s) (Nat.le_add_right _ _)
  obtain ⟨-, -, c, -, -, -⟩ := h
  obtain ⟨⟨a1, a2, a3, a4⟩, b, c1, d, x, y⟩ := hn
  have hd := drop_row h0
  have hc : (clk + D c0) % 9 ≠ clk % 9 := by omega
  obtain ⟨q1, q2, q3, q4⟩ := kdA_th hq
  have hcur : ap S ((clk + D c0) % 9) q (clk % 9) = S (clk % 9) := ap_ne (fun q => hc q.symm)
  have hne : ∀ c', c' < 4 → c' ≠ c0 → kdA c' q = false := by
    intro c' hc' hne
    rcases h9 : kdA c' q with - | -
    · rfl
    · have h8 := (kdA_th h9).2.2.2
      rw [q4] at h8
      exact absurd ((nI_eq (by omega) (by omega)).mp h8.symm) hne
  refine ⟨⟨?_, a2, a3, a4⟩, fun c' hc' => ?_, fun c' hc' => ?_, fun f hf => ?_, fun k' c' hk' hc' => ?_, fun c' hc' => ?_⟩
  · rw [sN_congr (g := fun k => (sl S clk (r + 1) k).countP kdTh) (fun i _ => by show (sl (ap S _ q) clk (r + 1) i).countP kdTh = _; rw [sl_ap hc, ap_cf q1])]; exact a1
  · rw [hcur, ap_cf (q3 c')]; exact b c' hc'
  · rw [hcur]
    have hb := c c' hc'
    rw [hd, List.countP_cons] at hb
    by_cases hcc : c' = c0
    · subst hcc
      rw [if_pos hq0] at hb
      rw [ap_ct hq]; omega
    · rw [ap_cf (hne c' hc' hcc)]; omega
  · rw [hcur]; exact d f hf
  · rw [ap_cf (q3 c')]
    have hx := x k' c' hk' hc'
    refine ⟨hx.1, ?_⟩
    by_cases hcc : c' = c0
    · subst hcc
      by_cases hkk : k' = (clk + D c') % 9
      · subst hkk
        have hb := c c' hc'
        rw [hd, List.countP_cons, if_pos hq0] at hb
        rw [ap_ct hq]; omega
      · rw [ap_ne hkk]; exact hx.2
    · rw [ap_cf (hne c' hc' hcc)]; exact hx.2
  · rw [hcur]; exact y c' hc'
/-- a CLASH comes: one conflict more -/
theorem BB.conf (h : BB S rq fl ff V G clk K D r j s e) {q0 : Row} {c0 : Nat} (h0 : (S (clk % 9))[r]? = some q0) (hclk : clk < 1000) {s' : Nat} (hs : s' ≤ s + if kdTh q0 then 1 else 0) {G' : Nat → Int32} (hG : ∀ c, c < 4 → G' c = if c = c0 then G c0 + 1 else G c) : BB S rq fl ff V G' clk K D (r + 1) j s' e ∧ ∀ c, c < 4 → vN (G c) ≤ vN (G' c) := by
  have hn := h.next h0 hs
  obtain ⟨a, b, c, d, x, y0⟩ := h
  obtain ⟨m1, m2, m3, m4, m5, m6⟩ := hn
  have hlen := (List.getElem?_eq_some_iff.mp h0).1
  have key : ∀ c, c < 4 → G' c = nI (vN (G' c)) ∧ vN (G' c) = vN (G c) + (if c = c0 then 1 else 0) := by
    intro c hc
    have y := y0 c hc
    rw [hG c hc]
    by_cases hcc : c = c0
    · subst hcc
      rw [if_pos rfl, if_pos rfl]
      have e1 : G c + 1 = nI (vN (G c) + 1) := by
        have := nI_add (vN (G c)) 1
        rw [← y.1] at this
        exact this
      rw [e1, vN_nI (by omega)]
      exact ⟨rfl, rfl⟩
    · rw [if_neg hcc, if_neg hcc]; exact ⟨y.1, rfl⟩
  refine ⟨⟨m1, m2, m3, m4, m5, fun c hc => ⟨(key c hc).1, ?_⟩⟩, fun c hc => by rw [(key c hc).2]; omega⟩
  have y := y0 c hc
  rw [(key c hc).2]
  split <;> omega
theorem countP_cover {l : List Row} (h : ∀ q, q ∈ l → kdTh q = true ∨ ∃ c, c < 4 ∧ (kdC c q = true ∨ kdA c q = true)) : l.length ≤ l.countP kdTh + sN 4 (fun c => l.countP (kdC c) + l.countP (kdA c)) := by
  induction l with
  | nil => exact Nat.zero_le _
  | cons q l ih =>
    have ih := ih (fun q hq => h q (List.mem_cons_of_mem _ hq))
    rw [List.length_cons, List.countP_cons]
    have hm : sN 4 (fun c => l.countP (kdC c) + l.countP (kdA c)) ≤ sN 4 (fun c => (q :: l).countP (kdC c) + (q :: l).countP (kdA c)) := sN_le (fun c _ => by rw [List.countP_cons, List.countP_cons]; omega)
    rcases h q List.mem_cons_self with h1 | ⟨c, hc, h1⟩
    · rw [if_pos h1]; omega
    · have hs : sN 4 (fun c => l.countP (kdC c) + l.countP (kdA c)) + 1 ≤ sN 4 (fun c => (q :: l).countP (kdC c) + (q :: l).countP (kdA c)) := by
        have hu := sN_upd (k := 4) (i := c) (f := fun c => l.countP (kdC c) + l.countP (kdA c)) (g := fun c' => if c' = c then l.countP (kdC c) + l.countP (kdA c) + 1 else l.countP (kdC c') + l.countP (kdA c')) hc (fun i _ hne => if_neg hne)
        have hl : sN 4 (fun c' => if c' = c then l.countP (kdC c) + l.countP (kdA c) + 1 else l.countP (kdC c') + l.countP (kdA c')) ≤ sN 4 (fun c => (q :: l).countP (kdC c) + (q :: l).countP (kdA c)) := sN_le (fun c' _ => by
          show (if c' = c then _ else _) ≤ _
          rw [List.countP_cons, List.countP_cons]
          by_cases hcc : c' = c
          · subst hcc; rw [if_pos rfl]
            rcases h1 with h1 | h1 <;> rw [if_pos h1] <;> omega
          · rw [if_neg hcc]; omega)
        simp only [if_pos] at hu
        omega
      omega
/-- no slot has more than this -/
theorem BB.len (h : BB S rq fl ff V G clk K D r j s e) (hj : j ≤ rq) {k : Nat} (hk : k < 9) (hc : k ≠ clk % 9) (ha : ∀ q, q ∈ S k → kdTh q = true ∨ ∃ c, c < 4 ∧ (kdC c q = true ∨ kdA c q = true)) : (S k).length ≤ 11328 := by
  obtain ⟨⟨a1, a2, a3, a4⟩, b, c, d, x, y⟩ := h
  have h1 := countP_cover ha
  have h2 : (sl S clk r k).countP kdTh ≤ sN 9 (fun k => (sl S clk r k).countP kdTh) := sN_get (f := fun k => (sl S clk r k).countP kdTh) hk
  have h3 : sl S clk r k = S k := if_neg hc
  rw [h3] at h2
  have h4 : sN 4 (fun c => (S k).countP (kdC c) + (S k).countP (kdA c)) ≤ 4 * 2520 := sN_bd (fun c hc => by have := x k c hk hc; omega)
  omega
theorem BB.reqs (h : BB S rq fl ff V G clk K D r j s e) : rq + s ≤ 1248 + j := by
  obtain ⟨⟨a1, a2, a3, a4⟩, b, c, d, x, y⟩ := h
  omega
/-- the clock goes on -/
theorem BB.tick (h : BB S rq fl ff V G clk K D 0 0 0 (fun _ => 0)) (h0 : S (clk % 9) = []) (hz : ∀ c, c < 4 → ∀ q, q ∈ S ((clk + 1 + D c) % 9) → kdC c q = false ∧ kdA c q = false) (ha : ∀ q, q ∈ S ((clk + 1) % 9) → kdTh q = true ∨ ∃ c, c < 4 ∧ (kdC c q = true ∨ kdA c q = true)) : BB S rq fl ff V G (clk + 1) K D 0 0 0 (fun _ => 0) := by
  have hlen := h.len (Nat.zero_le _) (k := (clk + 1) % 9) (Nat.mod_lt _ (by decide)) (by omega) ha
  obtain ⟨⟨a1, a2, a3, a4⟩, b, c, d, x, y⟩ := h
  have hs : ∀ c k, sl S c 0 k = S k := fun c k => by unfold sl; rw [List.drop_zero]; split <;> rfl
  have hR : (S ((clk + 1) % 9)).countP kdR ≤ sN 9 (fun k => (sl S clk 0 k).countP kdTh) := by
    refine Nat.le_trans (List.countP_mono_left (fun q _ h => kdR_th h)) ?_
    have := sN_get (f := fun k => (sl S clk 0 k).countP kdTh) (i := (clk + 1) % 9) (k := 9) (Nat.mod_lt _ (by decide))
    simp only [hs] at this
    simp only [hs]
    exact this
  have hzC : ∀ c, c < 4 → (S ((clk + 1 + D c) % 9)).countP (kdC c) = 0 := fun c hc => List.countP_eq_zero.mpr (fun q hq => by rw [(hz c hc q hq).1]; decide)
  have hzA : ∀ c, c < 4 → (S ((clk + 1 + D c) % 9)).countP (kdA c) = 0 := fun c hc => List.countP_eq_zero.mpr (fun q hq => by rw [(hz c hc q hq).2]; decide)
  refine ⟨⟨by simp only [hs] at a1 ⊢; exact a1, a2, a3, a4⟩, fun c' hc' => ?_, fun c' hc' => ?_, fun f hf => ?_, x, fun c' hc' => ⟨(y c' hc').1, ?_⟩⟩
  · rw [hzC c' hc', List.drop_zero]; show _ + 0 ≤ _; omega
  · rw [hzA c' hc', List.drop_zero]; have := (x ((clk + 1) % 9) c' (Nat.mod_lt _ (by decide)) hc').1; omega
  · rw [List.drop_zero]; have := d f hf; omega
  · have := (y c' hc').2; omega
/-- what has come is gone -/
theorem BB.gone (h : BB S rq fl ff V G clk K D (S (clk % 9)).length 0 0 (fun _ => 0)) {S' : Nat → List Row} (h1 : S' (clk % 9) = []) (h2 : ∀ k, k < 9 → k ≠ clk % 9 → S' k = S k) (hD : ∀ c, c < 4 → 1 ≤ D c ∧ D c ≤ 8) : BB S' rq fl ff V G clk K D 0 0 0 (fun _ => 0) := by
  obtain ⟨⟨a1, a2, a3, a4⟩, b, c, d, x, y⟩ := h
  rw [List.drop_length] at b c d
  have hD2 : ∀ c, c < 4 → S' ((clk + D c) % 9) = S ((clk + D c) % 9) := fun c hc => h2 _ (Nat.mod_lt _ (by decide)) (by have := hD c hc; omega)
  refine ⟨⟨?_, a2, a3, a4⟩, fun c' hc' => ?_, fun c' hc' => ?_, fun f hf => ?_, fun k c' hk hc' => ?_, fun c' hc' => ⟨(y c' hc').1, ?_⟩⟩
  · rw [sN_congr (g := fun k => (sl S clk (S (clk % 9)).length k).countP kdTh) (fun i hi => by
      show (sl S' clk 0 i).countP kdTh = _
      unfold sl
      by_cases hh : i = clk % 9
      · subst hh; rw [if_pos rfl, if_pos rfl, h1, List.drop_length]; rfl
      · rw [if_neg hh, if_neg hh, h2 i hi hh])]
    exact a1
  · rw [hD2 c' hc', h1]; exact b c' hc'
  · rw [hD2 c' hc', h1]; exact c c' hc'
  · rw [h1]; exact d f hf
  · by_cases hh : k = clk % 9
    · subst hh; rw [h1]; exact ⟨Nat.zero_le _, Nat.zero_le _⟩
    · rw [h2 k hk hh]; exact x k c' hk hc'
  · rw [h1]; have := (y c' hc').2; simp only [List.length_nil]; omega
end BUDGET
end
section
/-! ===== what holds of a net ===== -/
def vrs (M : MS) (n f : Nat) : Nat := vN (gV M 4 n f 0 1)
/-- a thing on its way -/
def TJ (V : Nat → Nat) (clk cc : Nat) (D : Nat → Nat) (ev : Bool) (k : Nat) (q : Row) : Prop :=
  (∃ c w, c < cc ∧ q 0 = nI c ∧ q 3 = nI w ∧ w % 9 = k ∧ clk ≤ w ∧ w ≤ clk + D c) ∧ (∃ f, f < 12 ∧ q 2 = nI f ∧ q 5 = nI (vN (q 5)) ∧ vN (q 5) ≤ V f) ∧ (∃ d, d ≤ 6 ∧ q 1 = nI d) ∧ cOk (q 4) ∧ (ev = false → ¬ q 7 = 1)
/-- a file at a client -/
def HJ (M : MS) (n c f : Nat) : Prop := cOk (gV M 2 n c f 1) ∧ gV M 2 n c f 2 = nI (vN (gV M 2 n c f 2)) ∧ vN (gV M 2 n c f 2) ≤ vrs M n f
/-- a client -/
def CJ (M : MS) (n : Nat) (D : Nat → Nat) (ev : Bool) (c : Nat) : Prop :=
  (∃ l, CI M n c l) ∧ gV M 1 n c 0 4 = nI (D c) ∧ (1 ≤ D c ∧ D c ≤ 6) ∧ (¬ gV M 1 n c 0 6 = 0 → ∀ f, f < 12 → gV M 2 n c f 6 = 0 ∧ gV M 2 n c f 7 = 0) ∧ (gT M 0 n c).length ≤ 10 ∧ (∀ f, f < 12 → HJ M n c f) ∧ (ev = false → gV M 1 n c 0 6 = 0 ∧ gV M 1 n c 0 11 = 0)
/-- a request -/
def QJ (cc : Nat) (q : Row) : Prop := (∃ c, c < cc ∧ q 0 = nI c) ∧ (q 1 = 0 ∨ q 1 = 1) ∧ cOk (q 2)
/-- a file at the server -/
def SJ (M : MS) (n cc f : Nat) : Prop := cOk (gV M 4 n f 0 0) ∧ gV M 4 n f 0 1 = nI (vrs M n f) ∧ ∀ q, q ∈ gT M 1 n f → QJ cc q
/-- the net's own numbers -/
def OJ (M : MS) (n clk cc : Nat) : Prop := clk < 1000 ∧ cc ≤ 4 ∧ gV M 0 n 0 0 0 = nI clk ∧ gV M 0 n 0 0 4 = nI cc ∧ ∃ r, r ≤ 6 ∧ gV M 0 n 0 0 3 = nI r
def NJ (M : MS) (n clk cc : Nat) (D : Nat → Nat) (ev : Bool) : Prop :=
  OJ M n clk cc ∧ (∀ c, c < 4 → CJ M n D ev c) ∧ (∀ f, f < 12 → SJ M n cc f) ∧ ∀ k, k < 9 → ∀ q, q ∈ gT M 2 n k → TJ (vrs M n) clk cc D ev k q
def RQ (M : MS) (n : Nat) : Nat := sN 12 (fun f => (gT M 1 n f).length)
def FF (M : MS) (n : Nat) : Nat := sN 12 (fun f => bz (gV M 4 n f 0 4))
def FL (M : MS) (n : Nat) : Nat := sN 4 (fun c => sN 12 (fun f => bz (gV M 2 n c f 6) + bz (gV M 2 n c f 7)))
def BJ (M : MS) (n clk K : Nat) (D : Nat → Nat) (r j s : Nat) (e : Nat → Nat) : Prop :=
  BB (fun k => gT M 2 n k) (RQ M n) (FL M n) (FF M n) (vrs M n) (fun c => gV M 1 n c 0 9) clk K D r j s e
/-- what a step of net n leaves as it was -/
def G0 (M M' : MS) (n : Nat) : Prop := (∀ g n' a b k, n' ≠ n → gV M' g n' a b k = gV M g n' a b k) ∧ (∀ y n' a, n' ≠ n → gT M' y n' a = gT M y n' a ∧ gP M' y n' a = gP M y n' a) ∧ ∀ i, gX M' i = gX M i
/-- hits, misses, conflicts, habits -/
def FC (M M' : MS) (n : Nat) : Prop := ∀ c, c < 4 → gV M' 1 n c 0 7 = gV M 1 n c 0 7 ∧ gV M' 1 n c 0 8 = gV M 1 n c 0 8 ∧ vN (gV M 1 n c 0 9) ≤ vN (gV M' 1 n c 0 9)
/-- versions go up, or the content stays -/
def FV (M M' : MS) (n : Nat) : Prop := ∀ f, f < 12 → vrs M n f ≤ vrs M' n f ∧ (vrs M' n f = vrs M n f → gV M' 4 n f 0 0 = gV M 4 n f 0 0)
def FR (M M' : MS) (n : Nat) : Prop := G0 M M' n ∧ FC M M' n ∧ FV M M' n
theorem G0.rfl' (M : MS) (n : Nat) : G0 M M n := ⟨fun _ _ _ _ _ _ => rfl, fun _ _ _ _ => ⟨rfl, rfl⟩, fun _ => rfl⟩
theorem G0.trans {M M' M'' : MS} {n : Nat} (h : G0 M M' n) (h' : G0 M' M'' n) : G0 M M'' n := ⟨fun g n' a b k q => (h'.1 g n' a b k q).trans (h.1 g n' a b k q), fun y n' a q => ⟨(h'.2.1 y n' a q).1.trans (h.2.1 y n' a q).1, (h'.2.1 y n' a q).2.trans (h.2.1 y n' a q).2⟩, fun i => (h'.2.2 i).trans (h.2.2 i)⟩
theorem FC.rfl' (M : MS) (n : Nat) : FC M M n := fun _ _ => ⟨rfl, rfl, Nat.le_refl _⟩
theorem FC.trans {M M' M'' : MS} {n : Nat} (h : FC M M' n) (h' : FC M' M'' n) : FC M M'' n := fun c hc => ⟨(h' c hc).1.trans (h c hc).1, (h' c hc).2.1.trans (h c hc).2.1, Nat.le_trans (h c hc).2.2 (h' c hc).2.2⟩
theorem FV.rfl' (M : MS) (n : Nat) : FV M M n := fun _ _ => ⟨Nat.le_refl _, fun _ => rfl⟩
theorem FV.trans {M M' M'' : MS} {n : Nat} (h : FV M M' n) (h' : FV M' M'' n) : FV M M'' n := fun f hf => by
  obtain ⟨a1, a2⟩ := h f hf
  obtain ⟨b1, b2⟩ := h' f hf
  refine ⟨Nat.le_trans a1 b1, fun q => ?_⟩
  rw [b2 (by omega), a2 (by omega)]
theorem FR.rfl' (M : MS) (n : Nat) : FR M M n := ⟨G0.rfl' M n, FC.rfl' M n, FV.rfl' M n⟩
theorem FR.trans {M M' M'' : MS} {n : Nat} (h : FR M M' n) (h' : FR M' M'' n) : FR M M'' n := ⟨h.1.trans h'.1, h.2.1.trans h'.2.1, h.2.2.trans h'.2.2⟩
theorem G0.sv (M : MS) (g n a b k : Nat) (v : Int32) : G0 M (sV M g n a b k v) n := ⟨fun g' n' a' b' k' q => sV_ne (fun h => q h.2.1), fun _ _ _ _ => ⟨rfl, rfl⟩, fun _ => rfl⟩
theorem G0.sw (M : MS) (z t y n a : Nat) (r : List Row) (cap : Nat) : G0 M (sW M z t y n a r cap) n := ⟨fun g' n' a' b' k' q => rfl, fun y' n' a' q => ⟨gT_sWn (fun h => q h.2.1), gP_sWn (fun h => q h.2.1)⟩, fun _ => rfl⟩
/-- a thing more -/
def snd (M : MS) (n k : Nat) (q : Row) : MS := sW M (aZ M 2 n k) (aT M 2 n k) 2 n k (gT M 2 n k ++ [q]) (aP M 2 n k)
theorem snd_V (M : MS) (n k : Nat) (q : Row) (g n' a b k' : Nat) : gV (snd M n k q) g n' a b k' = gV M g n' a b k' := rfl
theorem snd_T (M : MS) (n k : Nat) (q : Row) (k' : Nat) : gT (snd M n k q) 2 n k' = ap (fun k => gT M 2 n k) k q k' := by
  unfold snd
  by_cases h : k' = k
  · subst h; rw [gT_sW, ap_eq]
  · rw [gT_sWn (fun q => h q.2.2), ap_ne h]
theorem snd_T' (M : MS) (n k : Nat) (q : Row) {y : Nat} (hy : y ≠ 2) (n' a : Nat) : gT (snd M n k q) y n' a = gT M y n' a := gT_sWn (fun q => hy q.1)
theorem FR_snd (M : MS) (n k : Nat) (q : Row) : FR M (snd M n k q) n := ⟨G0.sw _ _ _ _ _ _ _ _, FC.rfl' M n, FV.rfl' M n⟩
theorem CI_snd {M : MS} {n c k : Nat} {l : List Nat} {q : Row} (h : CI M n c l) : CI (snd M n k q) n c l := h.of rfl (fun _ => rfl) (fun _ => ⟨rfl, rfl⟩)
/-- it is one of those that may be on their way -/
theorem NJ_snd {M : MS} {n clk cc k : Nat} {D : Nat → Nat} {ev : Bool} (h : NJ M n clk cc D ev) {q : Row} (hq : TJ (vrs M n) clk cc D ev k q) : NJ (snd M n k q) n clk cc D ev := by
  obtain ⟨h1, h2, h3, h4⟩ := h
  refine ⟨h1, fun c hc => ?_, fun f hf => ?_, fun k' hk' q' hq' => ?_⟩
  · obtain ⟨⟨l, a1⟩, a2, a3, a4, a5, a6, a7⟩ := h2 c hc
    exact ⟨⟨l, CI_snd a1⟩, a2, a3, a4, by rw [snd_T' _ _ _ _ (by decide)]; exact a5, a6, a7⟩
  · obtain ⟨a1, a2, a3⟩ := h3 f hf
    exact ⟨a1, a2, by rw [snd_T' _ _ _ _ (by decide)]; exact a3⟩
  · rw [snd_T] at hq'
    by_cases hk : k' = k
    · subst hk
      rw [ap_eq, List.mem_append, List.mem_singleton] at hq'
      rcases hq' with hq' | hq'
      · exact h4 k' hk' q' hq'
      · subst hq'; exact hq
    · rw [ap_ne hk] at hq'; exact h4 k' hk' q' hq'
theorem RQ_snd (M : MS) (n k : Nat) (q : Row) : RQ (snd M n k q) n = RQ M n := sN_congr (fun f _ => by show (gT (snd M n k q) 1 n f).length = _; rw [snd_T' _ _ _ _ (by decide)])
theorem BJ_snd {M : MS} {n clk K k r j s : Nat} {D : Nat → Nat} {e : Nat → Nat} {q : Row} (h : BB (ap (fun k => gT M 2 n k) k q) (RQ M n) (FL M n) (FF M n) (vrs M n) (fun c => gV M 1 n c 0 9) clk K D r j s e) : BJ (snd M n k q) n clk K D r j s e := by
  unfold BJ
  rw [RQ_snd, show (fun k' => gT (snd M n k q) 2 n k') = ap (fun k => gT M 2 n k) k q from funext (fun k' => snd_T M n k q k')]
  exact h
theorem TJ.cover {V : Nat → Nat} {clk cc k : Nat} {D : Nat → Nat} {ev : Bool} {q : Row} (h : TJ V clk cc D ev k q) (hcc : cc ≤ 4) : kdTh q = true ∨ ∃ c, c < 4 ∧ (kdC c q = true ∨ kdA c q = true) := by
  obtain ⟨⟨c, w, hc, h0, -⟩, -, -⟩ := h
  unfold kdTh kdC kdA
  by_cases h2 : q 1 = 2
  · exact Or.inr ⟨c, by omega, Or.inr (by rw [h2, h0]; simp)⟩
  · by_cases h6 : q 1 = 6
    · exact Or.inr ⟨c, by omega, Or.inl (by rw [h6, h0]; simp)⟩
    · left
      rw [beq_eq_false_iff_ne.mpr h2, beq_eq_false_iff_ne.mpr h6]; rfl
/-- a slot's rows -/
theorem NJ.len {M : MS} {n clk cc K r j s : Nat} {D : Nat → Nat} {e : Nat → Nat} {ev : Bool} (h : NJ M n clk cc D ev) (hB : BJ M n clk K D r j s e) (hj : j ≤ RQ M n) {k : Nat} (hk : k < 9) (hc : k ≠ clk % 9) : (gT M 2 n k).length ≤ 11328 :=
  hB.len hj hk hc (fun q hq => (h.2.2.2 k hk q hq).cover h.1.2.1)
section SEND
variable {L : Nat} {xs : Nat → Int32} {d : Nat} {hp : AH} {M : MS} {n c f : Nat}
/-- it is a client -/
theorem s_isClient (hR : Rep hp M) (hn : n < 2) {cc : Nat} (hcc : gV M 0 n 0 0 4 = nI cc) (hc : c < cc) (h4 : cc ≤ 4) : WM L xs d mX2_isClient [.ref (xi 0 n 0 0), .int (nI c)] hp (fun v hp' => hp' = hp ∧ v = some (.int 1)) := by
  refine WM.of [some (.ref _), some (.int (nI c))] (by decide) rfl (Nat.le_of_ble_eq_true rfl) ?_
  refine wp_iload_n (i := 1) dX2_isClient_0 rfl rfl ?_
  refine wp_if_lt (tgt := 21) dX2_isClient_1 (by decide) (fun c1 => ?_) (fun c1 => ?_)
  · skip
    exact absurd c1 (nI_pos (by omega))
  · skip
    refine wp_iload_n (i := 1) dX2_isClient_4 rfl rfl ?_
    refine wp_aload_n (i := 0) dX2_isClient_5 rfl rfl ?_
    refine wr_get (g := 0) (n := n) (a := 0) (b := 0) (k := 4) dX2_isClient_6 hR f_X2_44 (vs0 hn (by decide)) (by decide) (by decide) ?_
    refine wp_icmp_ge (tgt := 21) dX2_isClient_9 (by decide) (fun c9 => ?_) (fun c9 => ?_)
    · skip
      exact absurd (by rw [hcc]; exact nI_lt hc (by omega)) c9
    · skip
      refine wp_iload_n (i := 1) dX2_isClient_12 rfl rfl ?_
      refine wp_iconst (v := 4) dX2_isClient_13 rfl ?_
      refine wp_icmp_ge (tgt := 21) dX2_isClient_14 (by decide) (fun c14 => ?_) (fun c14 => ?_)
      · skip
        exact absurd (nI_lt (show c < 4 by omega) (by decide)) c14
      · skip
        refine wp_iconst (v := 1) dX2_isClient_17 rfl ?_
        refine wp_goto (tgt := 22) dX2_isClient_18 (by decide) ?_
        refine wp_ret (v := some (.int _)) dX2_isClient_22 rfl ?_
        exact ⟨by first | exact Or.inr rfl | exact Or.inl rfl, rfl, rfl⟩
/-- it is a file -/
theorem s_isFile (hf : f < 12) : WM L xs d mX5_isFile [.int (nI f)] hp (fun v hp' => hp' = hp ∧ v = some (.int 1)) := by
  refine WM.of [some (.int (nI f))] (by decide) rfl (Nat.le_of_ble_eq_true rfl) ?_
  refine wp_iload_n (i := 0) dX5_isFile_0 rfl rfl ?_
  refine wp_if_lt (tgt := 14) dX5_isFile_1 (by decide) (fun c1 => ?_) (fun c1 => ?_)
  · skip
    exact absurd c1 (nI_pos (by omega))
  · skip
    refine wp_iload_n (i := 0) dX5_isFile_4 rfl rfl ?_
    refine wp_bipush (v := nI 12) dX5_isFile_5 (by decide) ?_
    refine wp_icmp_ge (tgt := 14) dX5_isFile_7 (by decide) (fun c7 => ?_) (fun c7 => ?_)
    · skip
      exact absurd (nI_lt hf (by decide)) c7
    · skip
      refine wp_iconst (v := 1) dX5_isFile_10 rfl ?_
      refine wp_goto (tgt := 15) dX5_isFile_11 (by decide) ?_
      refine wp_ret (v := some (.int _)) dX5_isFile_15 rfl ?_
      exact ⟨by first | exact Or.inr rfl | exact Or.inl rfl, rfl, rfl⟩
end SEND
end
section
section SEND
variable {L : Nat} {xs : Nat → Int32} {d : Nat} {hp : AH} {M : MS} {n c f : Nat}
/-- a thing is sent -/
theorem s_send (hR : Rep hp M) (hn : n < 2) (hc : c < 4) {clk dl : Nat} (hk : gV M 0 n 0 0 0 = nI clk) (hd : gV M 1 n c 0 4 = nI dl) (hb : clk + dl < 2 ^ 31) (hl : (gT M 2 n ((clk + dl) % 9)).length < 65536) (x1 x2 x4 x5 x6 : Int32) : WM L xs (d + 2) mX2_send [.ref (xi 0 n 0 0), .int x1, .int (nI c), .int x2, .int x4, .int x5, .int x6] hp (fun v hp' => v = none ∧ ∃ q : Row, q 0 = nI c ∧ q 1 = x1 ∧ q 2 = x2 ∧ q 3 = nI (clk + dl) ∧ q 4 = x4 ∧ q 5 = x5 ∧ q 6 = x6 ∧ (q 7 = 1 → ¬ gV M 1 n c 0 6 = 0) ∧ Rep hp' (snd M n ((clk + dl) % 9) q)) := by
  have hk9 : (clk + dl) % 9 < 9 := Nat.mod_lt _ (by decide)
  refine WM.of [some (.ref _), some (.int x1), some (.int (nI c)), some (.int x2), some (.int x4), some (.int x5), some (.int x6), none, none, none] (by decide) rfl (Nat.le_of_ble_eq_true rfl) ?_
  refine wp_aload_n (i := 0) dX2_send_0 rfl rfl ?_
  refine wr_get (g := 0) (n := n) (a := 0) (b := 0) (k := 0) dX2_send_1 hR f_X2_62 (vs0 hn (by decide)) (by decide) (by decide) ?_
  refine wp_aload_n (i := 0) dX2_send_4 rfl rfl ?_
  refine wr_netR (j := rC n) dX2_send_5 hR f_X2_23 hn (Or.inl ⟨rfl, rfl⟩) ?_
  refine wp_iload_n (i := 2) dX2_send_8 rfl rfl ?_
  refine wr_aC (c := c) dX2_send_9 hR rfl hn hc ?_
  refine wr_get (g := 1) (n := n) (a := c) (b := 0) (k := 4) dX2_send_10 hR f_X2_47 (vs1 hn hc (by decide)) (by decide) (by decide) ?_
  refine wp_iadd dX2_send_13 ?_
  rw [hk, hd, nI_add]
  refine wp_istore dX2_send_14 (Nat.le_of_ble_eq_true rfl) ?_
  refine wp_aload_n (i := 0) dX2_send_16 rfl rfl ?_
  refine wp_iload dX2_send_17 rfl ?_
  refine wp_callV (N := mX2_slotAt) (as := [.int (nI (clk + dl))]) dX2_send_19 l_X2_65 v_X2_slotAt rfl (hR.oo (vs0 hn (k := 0) (by decide)) (by decide)) rfl (by decide) (s_slotAt hR hn hb) (fun v hp1 hq => ?_)
  obtain ⟨rfl, rfl⟩ := hq
  refine wp_astore dX2_send_22 (Nat.le_of_ble_eq_true rfl) ?_
  refine wp_aload dX2_send_24 rfl ?_
  refine wp_callV (N := mX4_addRow) (as := []) dX2_send_26 l_X2_74 v_X4_addRow rfl (hR.oT (vt2 hn hk9)) rfl (by decide) (s_addRow hR (vt2 hn hk9) hl) (fun v hp1 hq => ?_)
  obtain ⟨rfl, q0, hR0⟩ := hq
  refine wp_istore dX2_send_29 (Nat.le_of_ble_eq_true rfl) ?_
  refine wp_aload dX2_send_31 rfl ?_
  refine wp_iload dX2_send_33 rfl ?_
  refine wp_iconst (v := 0) dX2_send_35 rfl ?_
  refine wp_iload_n (i := 2) dX2_send_36 rfl rfl ?_
  refine wp_callV (N := mX4_put) (as := [.int (nI (gT M 2 n ((clk + dl) % 9)).length), .int (nI 0), .int (nI c)]) dX2_send_37 l_X2_78 v_X4_put rfl (hR0.oT (vt2 hn hk9)) rfl (by decide) (s_putLast hR0 (vt2 hn hk9) (c := 0) (by decide) (nI c)) (fun v hp1 hq => ?_)
  obtain ⟨rfl, hR1⟩ := hq
  refine wp_aload dX2_send_40 rfl ?_
  refine wp_iload dX2_send_42 rfl ?_
  refine wp_iconst (v := 1) dX2_send_44 rfl ?_
  refine wp_iload_n (i := 1) dX2_send_45 rfl rfl ?_
  refine wp_callV (N := mX4_put) (as := [.int (nI (gT M 2 n ((clk + dl) % 9)).length), .int (nI 1), .int x1]) dX2_send_46 l_X2_78 v_X4_put rfl (hR1.oT (vt2 hn hk9)) rfl (by decide) (s_putLast hR1 (vt2 hn hk9) (c := 1) (by decide) x1) (fun v hp1 hq => ?_)
  obtain ⟨rfl, hR2⟩ := hq
  refine wp_aload dX2_send_49 rfl ?_
  refine wp_iload dX2_send_51 rfl ?_
  refine wp_iconst (v := 2) dX2_send_53 rfl ?_
  refine wp_iload_n (i := 3) dX2_send_54 rfl rfl ?_
  refine wp_callV (N := mX4_put) (as := [.int (nI (gT M 2 n ((clk + dl) % 9)).length), .int (nI 2), .int x2]) dX2_send_55 l_X2_78 v_X4_put rfl (hR2.oT (vt2 hn hk9)) rfl (by decide) (s_putLast hR2 (vt2 hn hk9) (c := 2) (by decide) x2) (fun v hp1 hq => ?_)
  obtain ⟨rfl, hR3⟩ := hq
  refine wp_aload dX2_send_58 rfl ?_
  refine wp_iload dX2_send_60 rfl ?_
  refine wp_iconst (v := 3) dX2_send_62 rfl ?_
  refine wp_iload dX2_send_63 rfl ?_
  refine wp_callV (N := mX4_put) (as := [.int (nI (gT M 2 n ((clk + dl) % 9)).length), .int (nI 3), .int (nI (clk + dl))]) dX2_send_65 l_X2_78 v_X4_put rfl (hR3.oT (vt2 hn hk9)) rfl (by decide) (s_putLast hR3 (vt2 hn hk9) (c := 3) (by decide) (nI (clk + dl))) (fun v hp1 hq => ?_)
  obtain ⟨rfl, hR4⟩ := hq
  refine wp_aload dX2_send_68 rfl ?_
  refine wp_iload dX2_send_70 rfl ?_
  refine wp_iconst (v := 4) dX2_send_72 rfl ?_
  refine wp_iload dX2_send_73 rfl ?_
  refine wp_callV (N := mX4_put) (as := [.int (nI (gT M 2 n ((clk + dl) % 9)).length), .int (nI 4), .int x4]) dX2_send_75 l_X2_78 v_X4_put rfl (hR4.oT (vt2 hn hk9)) rfl (by decide) (s_putLast hR4 (vt2 hn hk9) (c := 4) (by decide) x4) (fun v hp1 hq => ?_)
  obtain ⟨rfl, hR5⟩ := hq
  refine wp_aload dX2_send_78 rfl ?_
  refine wp_iload dX2_send_80 rfl ?_
  refine wp_iconst (v := 5) dX2_send_82 rfl ?_
  refine wp_iload dX2_send_83 rfl ?_
  refine wp_callV (N := mX4_put) (as := [.int (nI (gT M 2 n ((clk + dl) % 9)).length), .int (nI 5), .int x5]) dX2_send_85 l_X2_78 v_X4_put rfl (hR5.oT (vt2 hn hk9)) rfl (by decide) (s_putLast hR5 (vt2 hn hk9) (c := 5) (by decide) x5) (fun v hp1 hq => ?_)
  obtain ⟨rfl, hR6⟩ := hq
  refine wp_aload dX2_send_88 rfl ?_
  refine wp_iload dX2_send_90 rfl ?_
  refine wp_bipush (v := nI 6) dX2_send_92 (by decide) ?_
  refine wp_iload dX2_send_94 rfl ?_
  refine wp_callV (N := mX4_put) (as := [.int (nI (gT M 2 n ((clk + dl) % 9)).length), .int (nI 6), .int x6]) dX2_send_96 l_X2_78 v_X4_put rfl (hR6.oT (vt2 hn hk9)) rfl (by decide) (s_putLast hR6 (vt2 hn hk9) (c := 6) (by decide) x6) (fun v hp1 hq => ?_)
  obtain ⟨rfl, hR7⟩ := hq
  refine wp_aload dX2_send_99 rfl ?_
  refine wp_iload dX2_send_101 rfl ?_
  refine wp_bipush (v := nI 7) dX2_send_103 (by decide) ?_
  refine wp_aload_n (i := 0) dX2_send_105 rfl rfl ?_
  refine wr_netR (j := rC n) dX2_send_106 hR7 f_X2_23 hn (Or.inl ⟨rfl, rfl⟩) ?_
  refine wp_iload_n (i := 2) dX2_send_109 rfl rfl ?_
  refine wr_aC (c := c) dX2_send_110 hR7 rfl hn hc ?_
  refine wr_get (g := 1) (n := n) (a := c) (b := 0) (k := 6) dX2_send_111 hR7 f_X2_82 (vs1 hn hc (by decide)) (by decide) (by decide) ?_
  refine wp_if_eq (tgt := 121) dX2_send_114 (by decide) (fun c114 => ?_) (fun c114 => ?_)
  · skip
    refine wp_iconst (v := 0) dX2_send_121 rfl ?_
    refine wp_callV (N := mX4_put) (as := [.int (nI (gT M 2 n ((clk + dl) % 9)).length), .int (nI 7), .int 0]) dX2_send_122 l_X2_78 v_X4_put rfl (hR7.oT (vt2 hn hk9)) rfl (by decide) (s_putLast hR7 (vt2 hn hk9) (c := 7) (by decide) 0) (fun v hp1 hq => ?_)
    obtain ⟨rfl, hR8⟩ := hq
    refine wp_ret (v := none) dX2_send_125 rfl ?_
    exact ⟨trivial, rfl, _, rfl, rfl, rfl, rfl, rfl, rfl, rfl, fun q9 => absurd q9 (show ¬ (0 : Int32) = 1 by decide), hR8⟩
  · skip
    refine wp_iconst (v := 1) dX2_send_117 rfl ?_
    refine wp_goto (tgt := 122) dX2_send_118 (by decide) ?_
    refine wp_callV (N := mX4_put) (as := [.int (nI (gT M 2 n ((clk + dl) % 9)).length), .int (nI 7), .int 1]) dX2_send_122 l_X2_78 v_X4_put rfl (hR7.oT (vt2 hn hk9)) rfl (by decide) (s_putLast hR7 (vt2 hn hk9) (c := 7) (by decide) 1) (fun v hp1 hq => ?_)
    obtain ⟨rfl, hR8⟩ := hq
    refine wp_ret (v := none) dX2_send_125 rfl ?_
    exact ⟨trivial, rfl, _, rfl, rfl, rfl, rfl, rfl, rfl, rfl, fun _ => c114, hR8⟩
end SEND
end
section
/-! ===== steps of a net ===== -/
theorem FL_le (M : MS) (n : Nat) : FL M n ≤ 96 := Nat.le_trans (sN_bd (k := 4) (b := 24) (fun c _ => Nat.le_trans (sN_bd (k := 12) (b := 2) (fun f _ => by have h1 := bz_le (gV M 2 n c f 6); have h2 := bz_le (gV M 2 n c f 7); show _ + _ ≤ 2; omega)) (by decide))) (by decide)
theorem FF_le (M : MS) (n : Nat) : FF M n ≤ 12 := Nat.le_trans (sN_bd (k := 12) (b := 1) (fun f _ => bz_le _)) (by decide)
theorem FL_upd {M M' : MS} {n c f : Nat} (hc : c < 4) (hf : f < 12) (h : ∀ c' f', c' < 4 → f' < 12 → ¬ (c' = c ∧ f' = f) → gV M' 2 n c' f' 6 = gV M 2 n c' f' 6 ∧ gV M' 2 n c' f' 7 = gV M 2 n c' f' 7) : FL M' n + (bz (gV M 2 n c f 6) + bz (gV M 2 n c f 7)) = FL M n + (bz (gV M' 2 n c f 6) + bz (gV M' 2 n c f 7)) := by
  have h1 := sN_upd (k := 4) (i := c) (f := fun c => sN 12 (fun f => bz (gV M 2 n c f 6) + bz (gV M 2 n c f 7))) (g := fun c => sN 12 (fun f => bz (gV M' 2 n c f 6) + bz (gV M' 2 n c f 7))) hc (fun c' hc' hne => sN_congr (fun f' hf' => by rw [(h c' f' hc' hf' (fun q => hne q.1)).1, (h c' f' hc' hf' (fun q => hne q.1)).2]))
  have h2 := sN_upd (k := 12) (i := f) (f := fun f => bz (gV M 2 n c f 6) + bz (gV M 2 n c f 7)) (g := fun f => bz (gV M' 2 n c f 6) + bz (gV M' 2 n c f 7)) hf (fun f' hf' hne => by show bz _ + bz _ = _; rw [(h c f' hc hf' (fun q => hne q.2)).1, (h c f' hc hf' (fun q => hne q.2)).2])
  show sN 4 _ + _ = sN 4 _ + _
  omega
theorem FF_upd {M M' : MS} {n f : Nat} (hf : f < 12) (h : ∀ f', f' < 12 → ¬ f' = f → gV M' 4 n f' 0 4 = gV M 4 n f' 0 4) : FF M' n + bz (gV M 4 n f 0 4) = FF M n + bz (gV M' 4 n f 0 4) :=
  sN_upd (k := 12) (i := f) (f := fun f => bz (gV M 4 n f 0 4)) (g := fun f => bz (gV M' 4 n f 0 4)) hf (fun f' hf' hne => by show bz _ = bz _; rw [h f' hf' hne])
theorem FL_eq {M M' : MS} {n : Nat} (h : ∀ c f, c < 4 → f < 12 → gV M' 2 n c f 6 = gV M 2 n c f 6 ∧ gV M' 2 n c f 7 = gV M 2 n c f 7) : FL M' n = FL M n := sN_congr (fun c hc => sN_congr (fun f hf => by rw [(h c f hc hf).1, (h c f hc hf).2]))
theorem FF_eq {M M' : MS} {n : Nat} (h : ∀ f, f < 12 → gV M' 4 n f 0 4 = gV M 4 n f 0 4) : FF M' n = FF M n := sN_congr (fun f hf => by rw [h f hf])
theorem RQ_eq {M M' : MS} {n : Nat} (h : ∀ f, f < 12 → gT M' 1 n f = gT M 1 n f) : RQ M' n = RQ M n := sN_congr (fun f hf => by rw [h f hf])
theorem BJ.num {M M' : MS} {n clk K r j s : Nat} {D : Nat → Nat} {e : Nat → Nat} (h : BJ M n clk K D r j s e) {j' s' : Nat} {e' : Nat → Nat} (hT : ∀ k, gT M' 2 n k = gT M 2 n k) (hG : ∀ c, gV M' 1 n c 0 9 = gV M 1 n c 0 9) (h1 : RQ M' n + s' + FL M n + j ≤ RQ M n + s + FL M' n + j') (h2 : ∀ c, c < 4 → RQ M' n + e' c + FF M n + j ≤ RQ M n + e c + FF M' n + j') (h4 : ∀ f, f < 12 → vrs M' n f + RQ M' n + j ≤ vrs M n f + RQ M n + j') : BJ M' n clk K D r j' s' e' := by
  unfold BJ at h ⊢
  rw [show (fun k => gT M' 2 n k) = (fun k => gT M 2 n k) from funext hT, show (fun c => gV M' 1 n c 0 9) = (fun c => gV M 1 n c 0 9) from funext hG]
  exact BB.num h h1 ⟨FL_le _ _, FF_le _ _⟩ h2 h4
/-- nothing outside a client -/
def OC (M M' : MS) (n c : Nat) : Prop := (∀ g n' a b k, ¬ (n' = n ∧ a = c ∧ (g = 1 ∨ g = 2 ∨ g = 3)) → gV M' g n' a b k = gV M g n' a b k) ∧ (∀ y n' a, ¬ (y = 0 ∧ n' = n ∧ a = c) → gT M' y n' a = gT M y n' a ∧ gP M' y n' a = gP M y n' a) ∧ ∀ i, gX M' i = gX M i
theorem OC.g0 {M M' : MS} {n c : Nat} (h : OC M M' n c) : G0 M M' n := ⟨fun g n' a b k q => h.1 g n' a b k (fun p => q p.1), fun y n' a q => h.2.1 y n' a (fun p => q p.2.1), h.2.2⟩
theorem OC.fv {M M' : MS} {n c : Nat} (h : OC M M' n c) : FV M M' n := fun f _ => by
  have e0 := h.1 4 n f 0 0 (by omega)
  have e1 := h.1 4 n f 0 1 (by omega)
  unfold vrs
  rw [e1]
  exact ⟨Nat.le_refl _, fun _ => e0⟩
theorem OC.vrs {M M' : MS} {n c : Nat} (h : OC M M' n c) (f : Nat) : vrs M' n f = vrs M n f := by
  have e1 := h.1 4 n f 0 1 (by omega)
  show vN _ = vN _
  rw [e1]
theorem OC.fc {M M' : MS} {n c : Nat} (h : OC M M' n c) (h7 : gV M' 1 n c 0 7 = gV M 1 n c 0 7) (h8 : gV M' 1 n c 0 8 = gV M 1 n c 0 8) (h9 : vN (gV M 1 n c 0 9) ≤ vN (gV M' 1 n c 0 9)) : FC M M' n := fun c' _ => by
  by_cases hcc : c' = c
  · subst hcc; exact ⟨h7, h8, h9⟩
  · rw [h.1 1 n c' 0 7 (fun q => hcc q.2.1), h.1 1 n c' 0 8 (fun q => hcc q.2.1), h.1 1 n c' 0 9 (fun q => hcc q.2.1)]
    exact ⟨rfl, rfl, Nat.le_refl _⟩
theorem NJ.client {M M' : MS} {n clk cc c : Nat} {D : Nat → Nat} {ev : Bool} (h : NJ M n clk cc D ev) (hO : OC M M' n c) (hC : CJ M' n D ev c) : NJ M' n clk cc D ev := by
  obtain ⟨⟨b1, b2, b3, b4, b5⟩, h2, h3, h4⟩ := h
  have hv : vrs M' n = vrs M n := funext hO.vrs
  refine ⟨⟨b1, b2, by rw [hO.1 0 n 0 0 0 (by omega)]; exact b3, by rw [hO.1 0 n 0 0 4 (by omega)]; exact b4, by rw [hO.1 0 n 0 0 3 (by omega)]; exact b5⟩, fun c' hc' => ?_, fun f hf => ?_, fun k hk q hq => ?_⟩
  · by_cases hcc : c' = c
    · subst hcc; exact hC
    · obtain ⟨⟨l, a1⟩, a2, a3, a4, a5, a6, a7⟩ := h2 c' hc'
      have hx : ∀ g b k, gV M' g n c' b k = gV M g n c' b k := fun g b k => hO.1 g n c' b k (fun q => hcc q.2.1)
      refine ⟨⟨l, a1.of (hx _ _ _) (fun k => hx _ _ _) (fun f => ⟨hx _ _ _, hx _ _ _⟩)⟩, by rw [hx]; exact a2, a3, ?_, by rw [(hO.2.1 0 n c' (fun q => hcc q.2.2)).1]; exact a5, fun f hf => ?_, ?_⟩
      · rw [hx]; intro q f hf; rw [hx, hx]; exact a4 q f hf
      · obtain ⟨x1, x2, x3⟩ := a6 f hf
        unfold HJ
        rw [hv, hx, hx]
        exact ⟨x1, x2, x3⟩
      · rw [hx, hx]; exact a7
  · obtain ⟨x1, x2, x3⟩ := h3 f hf
    refine ⟨by rw [hO.1 4 n f 0 0 (by omega)]; exact x1, by rw [hO.1 4 n f 0 1 (by omega), hv]; exact x2, by rw [(hO.2.1 1 n f (by omega)).1]; exact x3⟩
  · rw [(hO.2.1 2 n k (by omega)).1] at hq
    rw [hv]
    exact h4 k hk q hq
theorem OC.rq {M M' : MS} {n c : Nat} (h : OC M M' n c) : RQ M' n = RQ M n := RQ_eq (fun f _ => (h.2.1 1 n f (by omega)).1)
theorem OC.ff {M M' : MS} {n c : Nat} (h : OC M M' n c) : FF M' n = FF M n := FF_eq (fun f _ => h.1 4 n f 0 4 (by omega))
theorem OC.bj {M M' : MS} {n c clk K r j s : Nat} {D : Nat → Nat} {e : Nat → Nat} (hO : OC M M' n c) (h : BJ M n clk K D r j s e) (h9 : gV M' 1 n c 0 9 = gV M 1 n c 0 9) {s' : Nat} (h1 : s' + FL M n ≤ s + FL M' n) : BJ M' n clk K D r j s' e :=
  h.num (fun k => (hO.2.1 2 n k (by omega)).1) (fun c' => by
    by_cases hcc : c' = c
    · subst hcc; exact h9
    · exact hO.1 1 n c' 0 9 (fun q => hcc q.2.1)) (by rw [hO.rq]; omega) (fun c' _ => by rw [hO.rq, hO.ff]; omega) (fun f _ => by rw [hO.rq, hO.vrs]; omega)
theorem OC.sv (M : MS) (n c f k : Nat) (v : Int32) : OC M (sV M 2 n c f k v) n c := ⟨fun g n' a b k' q => sV_ne (fun h => q ⟨h.2.1, h.2.2.1, by omega⟩), fun _ _ _ _ => ⟨rfl, rfl⟩, fun _ => rfl⟩
theorem OC.sv1 (M : MS) (n c k : Nat) (v : Int32) : OC M (sV M 1 n c 0 k v) n c := ⟨fun g n' a b k' q => sV_ne (fun h => q ⟨h.2.1, h.2.2.1, by omega⟩), fun _ _ _ _ => ⟨rfl, rfl⟩, fun _ => rfl⟩
theorem OC.trans {M M' M'' : MS} {n c : Nat} (h : OC M M' n c) (h' : OC M' M'' n c) : OC M M'' n c := ⟨fun g n' a b k q => (h'.1 g n' a b k q).trans (h.1 g n' a b k q), fun y n' a q => ⟨(h'.2.1 y n' a q).1.trans (h.2.1 y n' a q).1, (h'.2.1 y n' a q).2.trans (h.2.1 y n' a q).2⟩, fun i => (h'.2.2 i).trans (h.2.2 i)⟩
theorem Oth.oc {M M' : MS} {n c : Nat} (h : Oth M M' n c) : OC M M' n c := ⟨fun g n' a b k q => h.1 g n' a b k (fun p => q ⟨p.1, p.2.1, by omega⟩), fun y n' a _ => by unfold gT gP; rw [h.2.2.2]; exact ⟨rfl, rfl⟩, fun i => by unfold gX; rw [h.2.2.2]⟩
/-- all that holds -/
def ST (hp : AH) (M : MS) (zB tB n clk cc K : Nat) (D : Nat → Nat) (ev : Bool) (r j s : Nat) (e : Nat → Nat) : Prop := Rep hp M ∧ RI zB tB M ∧ NJ M n clk cc D ev ∧ BJ M n clk K D r j s e
section STEPS
variable {L : Nat} {xs : Nat → Int32} {d : Nat} {hp : AH} {M : MS} {zB tB n clk cc K : Nat} {D : Nat → Nat} {ev : Bool} {r j s : Nat} {e : Nat → Nat} {c f : Nat}
/-- the thing that is sent -/
theorem TJ.mk' (h : NJ M n clk cc D ev) (hc : c < cc) (hf : f < 12) {q : Row} {kd : Nat} (hk : kd ≤ 6) {x w : Int32} (hx : cOk x) (hw : w = nI (vN w) ∧ vN w ≤ vrs M n f) (q0 : q 0 = nI c) (q1 : q 1 = nI kd) (q2 : q 2 = nI f) (q3 : q 3 = nI (clk + D c)) (q4 : q 4 = x) (q5 : q 5 = w) (q7 : q 7 = 1 → ¬ gV M 1 n c 0 6 = 0) : TJ (vrs M n) clk cc D ev ((clk + D c) % 9) q := by
  obtain ⟨⟨b1, b2, b3, b4, b5⟩, h2, h3, h4⟩ := h
  refine ⟨⟨c, clk + D c, hc, q0, q3, rfl, Nat.le_add_right _ _, Nat.le_refl _⟩, ⟨f, hf, q2, by rw [q5]; exact hw.1, by rw [q5]; exact hw.2⟩, ⟨kd, hk, q1⟩, by rw [q4]; exact hx, fun hev hq => q7 hq ((h2 c (by omega)).2.2.2.2.2.2 hev).1⟩
theorem s_sendAny (h : ST hp M zB tB n clk cc K D ev r j s e) (hn : n < 2) (hj : j ≤ RQ M n) (hc : c < cc) (hf : f < 12) {kd : Nat} (hk : kd ≤ 6) {x w : Int32} (u : Int32) (hx : cOk x) (hw : w = nI (vN w) ∧ vN w ≤ vrs M n f) : WM L xs (d + 2) mX2_send [.ref (xi 0 n 0 0), .int (nI kd), .int (nI c), .int (nI f), .int x, .int w, .int u] hp (fun v hp' => v = none ∧ ∃ q : Row, q 0 = nI c ∧ q 1 = nI kd ∧ Rep hp' (snd M n ((clk + D c) % 9) q) ∧ RI zB tB (snd M n ((clk + D c) % 9) q) ∧ NJ (snd M n ((clk + D c) % 9) q) n clk cc D ev) := by
  obtain ⟨hR, hI, hN, hB⟩ := h
  obtain ⟨b1, b2, b3, b4, b5⟩ := hN.1
  have hC := hN.2.1 c (by omega)
  have hlen := hN.len hB hj (k := (clk + D c) % 9) (Nat.mod_lt _ (by decide)) (by have := hC.2.2.1; omega)
  refine WM.mono (s_send hR hn (by omega) b3 hC.2.1 (by have := hC.2.2.1; omega) (by omega) (nI kd) (nI f) x w u) (fun v hp' hq => ?_)
  obtain ⟨hv, q, q0, q1, q2, q3, q4, q5, q6, q7, hR'⟩ := hq
  exact ⟨hv, q, q0, q1, hR', hI.add hR (vt2 hn (Nat.mod_lt _ (by decide))) (by show _ ≤ 22700; omega), NJ_snd hN (TJ.mk' hN hc hf hk hx hw q0 q1 q2 q3 q4 q5 q7)⟩
/-- a thing of a thread -/
theorem s_sendT (h : ST hp M zB tB n clk cc K D ev r j (s + 1) e) (hn : n < 2) (hj : j ≤ RQ M n) (hc : c < cc) (hf : f < 12) {kd : Nat} (hk : kd ≤ 6) (hk2 : kd ≠ 2 ∧ kd ≠ 6) {x w : Int32} (u : Int32) (hx : cOk x) (hw : w = nI (vN w) ∧ vN w ≤ vrs M n f) : WM L xs (d + 2) mX2_send [.ref (xi 0 n 0 0), .int (nI kd), .int (nI c), .int (nI f), .int x, .int w, .int u] hp (fun v hp' => v = none ∧ ∃ k q, k ≠ clk % 9 ∧ ST hp' (snd M n k q) zB tB n clk cc K D ev r j s e) := by
  refine WM.mono (s_sendAny h hn hj hc hf hk u hx hw) (fun v hp' hq => ?_)
  obtain ⟨hv, q, q0, q1, q2, q3, q4⟩ := hq
  have hC := h.2.2.1.2.1 c (by have := h.2.2.1.1.2.1; omega)
  have hne : (clk + D c) % 9 ≠ clk % 9 := by have := hC.2.2.1; omega
  refine ⟨hv, _, q, hne, q2, q3, q4, BJ_snd (BB.ap_th h.2.2.2 (Nat.mod_lt _ (by decide)) hne ?_)⟩
  unfold kdTh
  rw [q1, beq_eq_false_iff_ne.mpr, beq_eq_false_iff_ne.mpr]
  · rfl
  · intro e9; exact hk2.2 ((nI_eq (by omega) (by decide)).mp (show nI kd = nI 6 from e9))
  · intro e9; exact hk2.1 ((nI_eq (by omega) (by decide)).mp (show nI kd = nI 2 from e9))
/-- a CALL -/
theorem s_sendC (h : ST hp M zB tB n clk cc K D ev r j s e) (hn : n < 2) (hj : j ≤ RQ M n) (hc : c < cc) (hf : f < 12) (u : Int32) {e' : Nat → Nat} (he : ∀ c', c' < 4 → e' c' + (if c' = c then 1 else 0) ≤ e c') : WM L xs (d + 2) mX2_send [.ref (xi 0 n 0 0), .int (nI 6), .int (nI c), .int (nI f), .int 0, .int 0, .int u] hp (fun v hp' => v = none ∧ ∃ k q, k ≠ clk % 9 ∧ ST hp' (snd M n k q) zB tB n clk cc K D ev r j s e') := by
  refine WM.mono (s_sendAny h hn hj hc hf (by decide) u (cOk_nI (k := 0) (by decide)) ⟨by decide, Nat.zero_le _⟩) (fun v hp' hq => ?_)
  obtain ⟨hv, q, q0, q1, q2, q3, q4⟩ := hq
  have hc4 : c < 4 := by have := h.2.2.1.1.2.1; omega
  have hC := h.2.2.1.2.1 c hc4
  have hne : (clk + D c) % 9 ≠ clk % 9 := by have := hC.2.2.1; omega
  refine ⟨hv, _, q, hne, q2, q3, q4, BJ_snd (BB.ap_C h.2.2.2 hj hc4 ⟨hC.2.2.1.1, by have := hC.2.2.1.2; omega⟩ ?_ he)⟩
  unfold kdC
  rw [q1, q0, beq_self_eq_true]
  rfl
/-- an ACK, for a CALL that has come -/
theorem s_sendA (h : ST hp M zB tB n clk cc K D ev r j s e) (hn : n < 2) (hj : j ≤ RQ M n) (hc : c < cc) (hf : f < 12) (u : Int32) {q0 : Row} (h0 : (gT M 2 n (clk % 9))[r]? = some q0) (hq0 : kdC c q0 = true) : WM L xs (d + 2) mX2_send [.ref (xi 0 n 0 0), .int (nI 2), .int (nI c), .int (nI f), .int 0, .int 0, .int u] hp (fun v hp' => v = none ∧ ∃ k q, k ≠ clk % 9 ∧ ST hp' (snd M n k q) zB tB n clk cc K D ev (r + 1) j s e) := by
  refine WM.mono (s_sendAny h hn hj hc hf (by decide) u (cOk_nI (k := 0) (by decide)) ⟨by decide, Nat.zero_le _⟩) (fun v hp' hq => ?_)
  obtain ⟨hv, q, q0, q1, q2, q3, q4⟩ := hq
  have hc4 : c < 4 := by have := h.2.2.1.1.2.1; omega
  have hC := h.2.2.1.2.1 c hc4
  have hne : (clk + D c) % 9 ≠ clk % 9 := by have := hC.2.2.1; omega
  refine ⟨hv, _, q, hne, q2, q3, q4, BJ_snd (BB.ap_A h.2.2.2 h0 hq0 ?_ hc4 ⟨hC.2.2.1.1, by have := hC.2.2.1.2; omega⟩)⟩
  unfold kdA
  rw [q1, q0, beq_self_eq_true]
  rfl

end STEPS
end
section
/-! ===== Net: what clients send ===== -/
theorem nodup_sub {l l' : List Nat} (h : l.Nodup) (hs : ∀ x, x ∈ l → x ∈ l') : l.length ≤ l'.length := by
  induction l generalizing l' with
  | nil => exact Nat.zero_le _
  | cons a t ih =>
    rw [List.nodup_cons] at h
    have ha : a ∈ l' := hs a List.mem_cons_self
    have h1 := ih (l' := l'.erase a) h.2 (fun x hx => (List.mem_erase_of_ne (show x ≠ a from fun q => h.1 (by rw [← q]; exact hx))).mpr (hs x (List.mem_cons_of_mem _ hx)))
    have h2 := List.length_erase_of_mem ha
    have h3 : 0 < l'.length := List.length_pos_of_mem ha
    rw [List.length_cons]; omega
theorem CJ.of {M M' : MS} {n c : Nat} {D : Nat → Nat} {ev : Bool} (h : CJ M n D ev c) (hO : OC M M' n c) (hI : ∃ l, CI M' n c l) (h4 : gV M' 1 n c 0 4 = gV M 1 n c 0 4) (hfl : ¬ gV M' 1 n c 0 6 = 0 → ∀ f, f < 12 → gV M' 2 n c f 6 = 0 ∧ gV M' 2 n c f 7 = 0) (hk : (gT M' 0 n c).length ≤ 10) (hh : ∀ f, f < 12 → cOk (gV M' 2 n c f 1) ∧ gV M' 2 n c f 2 = nI (vN (gV M' 2 n c f 2)) ∧ vN (gV M' 2 n c f 2) ≤ vrs M n f) (he : ev = false → gV M' 1 n c 0 6 = 0 ∧ gV M' 1 n c 0 11 = 0) : CJ M' n D ev c :=
  ⟨hI, h4.trans h.2.1, h.2.2.1, hfl, hk, fun f hf => by unfold HJ; rw [hO.vrs]; exact hh f hf, he⟩
section CLSEND
variable {L : Nat} {xs : Nat → Int32} {d : Nat} {hp : AH} {M : MS} {zB tB n clk cc K : Nat} {D : Nat → Nat} {ev : Bool} {r j s : Nat} {e : Nat → Nat} {c f : Nat}
theorem ST.lt (h : ST hp M zB tB n clk cc K D ev r j s e) (hc : c < cc) : c < 4 := by have := h.2.2.1.1.2.1; omega
theorem ST.cj (h : ST hp M zB tB n clk cc K D ev r j s e) (hc : c < cc) : CJ M n D ev c := h.2.2.1.2.1 c (h.lt hc)
/-- a file asks, or sends -/
theorem ST.flag {hp' : AH} {k : Nat} (h : ST hp M zB tB n clk cc K D ev r j s e) (hc : c < cc) (hf : f < 12) (hk : k = 6 ∨ k = 7) (h6 : gV M 1 n c 0 6 = 0) (h7 : gV M 2 n c f k = 0) (hR : Rep hp' (sV M 2 n c f k 1)) : ST hp' (sV M 2 n c f k 1) zB tB n clk cc K D ev r j (s + 1) e := by
  obtain ⟨l, hI⟩ := (h.cj hc).1
  have hC := h.cj hc
  have hO := OC.sv M n c f k 1
  have hx : ∀ g n' a b k', ¬ (g = 2 ∧ n' = n ∧ a = c ∧ b = f ∧ k' = k) → gV (sV M 2 n c f k 1) g n' a b k' = gV M g n' a b k' := fun g n' a b k' q => sV_ne q
  refine ⟨hR, h.2.1.of rfl rfl (fun _ _ _ => rfl), h.2.2.1.client hO (hC.of hO ⟨l, hI.sv 1 (by omega)⟩ (hx _ _ _ _ _ (by omega)) (fun q => absurd ((hx _ _ _ _ _ (by omega)).trans h6) q) hC.2.2.2.2.1 (fun f' hf' => ?_) (fun q => ?_)), hO.bj h.2.2.2 (hx _ _ _ _ _ (by omega)) ?_⟩
  · rw [hx _ _ _ _ _ (by omega), hx _ _ _ _ _ (by omega)]; exact hC.2.2.2.2.2.1 f' hf'
  · rw [hx _ _ _ _ _ (by omega), hx _ _ _ _ _ (by omega)]; exact hC.2.2.2.2.2.2 q
  · have hu := FL_upd (M := M) (M' := sV M 2 n c f k 1) (n := n) (h.lt hc) hf (fun c' f' _ _ hne => ⟨hx _ _ _ _ _ (fun q => hne ⟨q.2.2.1, q.2.2.2.1⟩), hx _ _ _ _ _ (fun q => hne ⟨q.2.2.1, q.2.2.2.1⟩)⟩)
    have e1 : bz (1 : Int32) = 1 := by decide
    have e0 : bz (0 : Int32) = 0 := by decide
    rcases hk with rfl | rfl
    · rw [sV_self, h7, sV_k (by decide), e1, e0] at hu; omega
    · rw [sV_self, h7, sV_k (by decide), e1, e0] at hu; omega

/-- a file is sent -/
theorem s_sendStore (h : ST hp M zB tB n clk cc K D ev r j s e) (hn : n < 2) (hj : j ≤ RQ M n) (hc : c < cc) (hf : f < 12) (h6 : gV M 1 n c 0 6 = 0) (h7 : gV M 2 n c f 7 = 0) : WM L xs (d + 3) mX2_sendStore [.ref (xi 0 n 0 0), .int (nI c), .int (nI f)] hp (fun v hp' => v = none ∧ ∃ k q, k ≠ clk % 9 ∧ ST hp' (snd (sV M 2 n c f 7 1) n k q) zB tB n clk cc K D ev r j s e) := by
  have hc4 := h.lt hc
  refine WM.of [some (.ref _), some (.int (nI c)), some (.int (nI f)), none] (by decide) rfl (Nat.le_of_ble_eq_true rfl) ?_
  refine wp_aload_n (i := 0) dX2_sendStore_0 rfl rfl ?_
  refine wr_netR (j := rC n) dX2_sendStore_1 h.1 f_X2_23 hn (Or.inl ⟨rfl, rfl⟩) ?_
  refine wp_iload_n (i := 1) dX2_sendStore_4 rfl rfl ?_
  refine wr_aC (c := c) dX2_sendStore_5 h.1 rfl hn hc4 ?_
  refine wr_cliR (j := rF n c) dX2_sendStore_6 h.1 f_X2_86 hn hc4 (Or.inl ⟨rfl, rfl⟩) ?_
  refine wp_iload_n (i := 2) dX2_sendStore_9 rfl rfl ?_
  refine wr_aF (f := f) dX2_sendStore_10 h.1 rfl hn hc4 hf ?_
  refine wp_astore_n (i := 3) dX2_sendStore_11 rfl (Nat.le_of_ble_eq_true rfl) ?_
  refine wp_aload_n (i := 3) dX2_sendStore_12 rfl rfl ?_
  refine wp_iconst (v := 1) dX2_sendStore_13 rfl ?_
  refine wr_put (g := 2) (n := n) (a := c) (b := f) (k := 7) dX2_sendStore_14 h.1 (p_X2_90 rfl) (vs2 hn hc4 hf (by decide)) (by decide) (by decide) (okB rfl (by decide)) (fun hp2 hR1 => ?_)
  refine wp_aload_n (i := 0) dX2_sendStore_17 rfl rfl ?_
  refine wp_iconst (v := 1) dX2_sendStore_18 rfl ?_
  refine wp_iload_n (i := 1) dX2_sendStore_19 rfl rfl ?_
  refine wp_iload_n (i := 2) dX2_sendStore_20 rfl rfl ?_
  refine wp_aload_n (i := 3) dX2_sendStore_21 rfl rfl ?_
  refine wr_get (g := 2) (n := n) (a := c) (b := f) (k := 1) dX2_sendStore_22 hR1 f_X2_95 (vs2 hn hc4 hf (by decide)) (by decide) (by decide) ?_
  refine wp_aload_n (i := 3) dX2_sendStore_25 rfl rfl ?_
  refine wr_get (g := 2) (n := n) (a := c) (b := f) (k := 2) dX2_sendStore_26 hR1 f_X2_98 (vs2 hn hc4 hf (by decide)) (by decide) (by decide) ?_
  refine wp_iconst (v := 0) dX2_sendStore_29 rfl ?_
  have hS1 := h.flag hc hf (Or.inr rfl) h6 h7 hR1
  have hH := (h.cj hc).2.2.2.2.2.1 f hf
  refine wp_callV (N := mX2_send) (as := [.int (nI 1), .int (nI c), .int (nI f), .int (gV (sV M 2 n c f 7 1) 2 n c f 1), .int (gV (sV M 2 n c f 7 1) 2 n c f 2), .int 0]) dX2_sendStore_30 l_X2_101 v_X2_send rfl (hR1.oo (vs0 hn (k := 0) (by decide)) (by decide)) rfl (by decide) (s_sendT hS1 hn hj hc hf (by decide) (by decide) 0 (by rw [sV_k (by decide)]; exact hH.1) (by rw [sV_k (by decide)]; exact hH.2)) (fun v hp9 hq => ?_)
  obtain ⟨rfl, k, q, hk, hS2⟩ := hq
  refine wp_ret (v := none) dX2_sendStore_33 rfl ?_
  exact ⟨trivial, rfl, k, q, hk, hS2⟩
/-- hits, misses: a number of a client that nothing hangs on -/
theorem ST.cnt {hp' : AH} {k : Nat} {v : Int32} (h : ST hp M zB tB n clk cc K D ev r j s e) (hc : c < cc) (hk : k = 7 ∨ k = 8 ∨ k = 10) (hR : Rep hp' (sV M 1 n c 0 k v)) : ST hp' (sV M 1 n c 0 k v) zB tB n clk cc K D ev r j s e := by
  obtain ⟨l, hI⟩ := (h.cj hc).1
  have hC := h.cj hc
  have hO := OC.sv1 M n c k v
  have hx : ∀ g n' a b k', ¬ (g = 1 ∧ n' = n ∧ a = c ∧ b = 0 ∧ k' = k) → gV (sV M 1 n c 0 k v) g n' a b k' = gV M g n' a b k' := fun g n' a b k' q => sV_ne q
  refine ⟨hR, h.2.1.of rfl rfl (fun _ _ _ => rfl), h.2.2.1.client hO (hC.of hO ⟨l, hI.of (hx _ _ _ _ _ (by omega)) (fun _ => hx _ _ _ _ _ (by omega)) (fun _ => ⟨hx _ _ _ _ _ (by omega), hx _ _ _ _ _ (by omega)⟩)⟩ (hx _ _ _ _ _ (by omega)) (fun q => ?_) hC.2.2.2.2.1 (fun f' hf' => ?_) (fun q => ?_)), hO.bj h.2.2.2 (hx _ _ _ _ _ (by omega)) ?_⟩
  · rw [hx _ _ _ _ _ (by omega)] at q
    intro f hf
    rw [hx _ _ _ _ _ (by omega), hx _ _ _ _ _ (by omega)]; exact hC.2.2.2.1 q f hf
  · rw [hx _ _ _ _ _ (by omega), hx _ _ _ _ _ (by omega)]; exact hC.2.2.2.2.2.1 f' hf'
  · rw [hx _ _ _ _ _ (by omega), hx _ _ _ _ _ (by omega)]; exact hC.2.2.2.2.2.2 q
  · rw [FL_eq (M := M) (M' := sV M 1 n c 0 k v) (fun c' f' _ _ => ⟨hx _ _ _ _ _ (by omega), hx _ _ _ _ _ (by omega)⟩)]
    exact Nat.le_refl _
/-- a file that is there is used -/
theorem ST.used {hp' : AH} {l : List Nat} {F : Nat → Int32} (h : ST hp M zB tB n clk cc K D ev r j s e) (hc : c < cc) (hf : f < 12) (hI : CI M n c l) (hfl : f ∈ l) (hF : Lst F (useL l f)) (hR : Rep hp' (cO M n c (nI (useL l f).length) F [])) : ST hp' (cO M n c (nI (useL l f).length) F []) zB tB n clk cc K D ev r j s e := by
  have hC := h.cj hc
  have hO := (Oth.co M n c (nI (useL l f).length) F []).oc
  have hU : CI (cO M n c (nI (useL l f).length) F []) n c (useL l f) := CI.use hI.1 hI.2.1 hf (by rw [useL_len, if_pos hfl]; exact hI.2.2.1) (fun g hg => by
    rw [hI.2.2.2.1 g hg]
    exact ⟨fun q => Or.inr q, fun q => q.elim (fun e9 => e9 ▸ hfl) id⟩) (fun g hg hd => Or.inr (hI.2.2.2.2 g hg hd)) hF
  have hx1 : ∀ k, k ≠ 2 → gV (cO M n c (nI (useL l f).length) F []) 1 n c 0 k = gV M 1 n c 0 k := fun k hk => (Oth.co M n c (nI (useL l f).length) F []).1 1 n c 0 k (by omega)
  have hx2 : ∀ f' k, gV (cO M n c (nI (useL l f).length) F []) 2 n c f' k = gV M 2 n c f' k := fun f' k => cO_he _ _ _ _ _ _ _ _ (Or.inl List.not_mem_nil)
  refine ⟨hR, h.2.1.of rfl rfl (fun _ _ _ => rfl), h.2.2.1.client hO (hC.of hO ⟨_, hU⟩ (hx1 4 (by decide)) (fun q => ?_) hC.2.2.2.2.1 (fun f' hf' => ?_) (fun q => ?_)), hO.bj h.2.2.2 (hx1 9 (by decide)) ?_⟩
  · rw [hx1 6 (by decide)] at q
    intro f hf
    rw [hx2, hx2]; exact hC.2.2.2.1 q f hf
  · rw [hx2, hx2]; exact hC.2.2.2.2.2.1 f' hf'
  · rw [hx1 6 (by decide), hx1 11 (by decide)]; exact hC.2.2.2.2.2.2 q
  · rw [FL_eq (M := M) (M' := cO M n c (nI (useL l f).length) F []) (fun c' f' _ _ => by
      by_cases hcc : c' = c
      · subst hcc; exact ⟨hx2 _ _, hx2 _ _⟩
      · exact ⟨hO.1 2 n c' f' 6 (fun q => hcc q.2.1), hO.1 2 n c' f' 7 (fun q => hcc q.2.1)⟩)]
    exact Nat.le_refl _
/-- how a try ends -/
def Rch (M M' : MS) (n clk c f : Nat) (v : Option Value) : Prop := G0 M M' n ∧ (∀ c', c' ≠ c → gV M' 1 n c' 0 7 = gV M 1 n c' 0 7 ∧ gV M' 1 n c' 0 8 = gV M 1 n c' 0 8) ∧
  ((tru M n c f (nI clk) (gV M 1 n c 0 6) ∧ v = some (.int 1) ∧ gV M' 1 n c 0 7 = gV M 1 n c 0 7 + 1 ∧ gV M' 1 n c 0 8 = gV M 1 n c 0 8 ∧ (∀ f' k, gV M' 2 n c f' k = gV M 2 n c f' k) ∧ gV M' 3 n c 0 0 = nI f) ∨
   (¬ tru M n c f (nI clk) (gV M 1 n c 0 6) ∧ v = some (.int 0) ∧ gV M' 1 n c 0 7 = gV M 1 n c 0 7 ∧ gV M' 1 n c 0 8 = gV M 1 n c 0 8 + 1))
theorem s_reach (h : ST hp M zB tB n clk cc K D ev 0 0 0 (fun _ => 0)) (hn : n < 2) (hc : c < cc) (hf : f < 12) : WM L xs (d + 3) mX2_reach [.ref (xi 0 n 0 0), .int (nI c), .int (nI f)] hp (fun v hp' => ∃ M', ST hp' M' zB tB n clk cc K D ev 0 0 0 (fun _ => 0) ∧ Rch M M' n clk c f v) := by
  have hc4 := h.lt hc
  have hclk := h.2.2.1.1.2.2.1
  refine WM.of [some (.ref _), some (.int (nI c)), some (.int (nI f)), none, none] (by decide) rfl (Nat.le_of_ble_eq_true rfl) ?_
  refine wp_aload_n (i := 0) dX2_reach_0 rfl rfl ?_
  refine wr_netR (j := rC n) dX2_reach_1 h.1 f_X2_23 hn (Or.inl ⟨rfl, rfl⟩) ?_
  refine wp_iload_n (i := 1) dX2_reach_4 rfl rfl ?_
  refine wr_aC (c := c) dX2_reach_5 h.1 rfl hn hc4 ?_
  refine wp_astore_n (i := 3) dX2_reach_6 rfl (Nat.le_of_ble_eq_true rfl) ?_
  refine wp_aload_n (i := 3) dX2_reach_7 rfl rfl ?_
  refine wr_cliR (j := rF n c) dX2_reach_8 h.1 f_X2_86 hn hc4 (Or.inl ⟨rfl, rfl⟩) ?_
  refine wp_iload_n (i := 2) dX2_reach_11 rfl rfl ?_
  refine wr_aF (f := f) dX2_reach_12 h.1 rfl hn hc4 hf ?_
  refine wp_astore dX2_reach_13 (Nat.le_of_ble_eq_true rfl) ?_
  refine wp_aload dX2_reach_15 rfl ?_
  refine wp_aload_n (i := 0) dX2_reach_17 rfl rfl ?_
  refine wr_get (g := 0) (n := n) (a := 0) (b := 0) (k := 0) dX2_reach_18 h.1 f_X2_62 (vs0 hn (by decide)) (by decide) (by decide) ?_
  refine wp_aload_n (i := 3) dX2_reach_21 rfl rfl ?_
  refine wr_get (g := 1) (n := n) (a := c) (b := 0) (k := 6) dX2_reach_22 h.1 f_X2_82 (vs1 hn hc4 (by decide)) (by decide) (by decide) ?_
  rw [hclk]
  refine wp_callV (N := mX1_isTrusted) dX2_reach_25 l_X2_105 v_X1_isTrusted rfl (h.1.oo (vs2 hn hc4 hf (k := 0) (by decide)) (by decide)) rfl (by decide) (s_isTrusted h.1 hn hc4 hf (nI clk) (gV M 1 n c 0 6)) (fun v hp9 hq => ?_)
  obtain ⟨rfl, rfl⟩ := hq
  refine wp_if_eq (tgt := 48) dX2_reach_28 (by decide) (fun c28 => ?_) (fun c28 => ?_)
  · skip
    refine wp_aload_n (i := 3) dX2_reach_48 rfl rfl ?_
    refine wp_dup dX2_reach_49 rfl ?_
    refine wr_get (g := 1) (n := n) (a := c) (b := 0) (k := 8) dX2_reach_50 h.1 f_X2_115 (vs1 hn hc4 (by decide)) (by decide) (by decide) ?_
    refine wp_iconst (v := 1) dX2_reach_53 rfl ?_
    refine wp_iadd dX2_reach_54 ?_
    refine wr_put (g := 1) (n := n) (a := c) (b := 0) (k := 8) dX2_reach_55 h.1 (p_X2_115 rfl) (vs1 hn hc4 (by decide)) (by decide) (by decide) (okI rfl) (fun hp2 hR1 => ?_)
    refine wp_aload_n (i := 3) dX2_reach_58 rfl rfl ?_
    refine wr_get (g := 1) (n := n) (a := c) (b := 0) (k := 6) dX2_reach_59 hR1 f_X2_82 (vs1 hn hc4 (by decide)) (by decide) (by decide) ?_
    refine wp_if_ne (tgt := 89) dX2_reach_62 (by decide) (fun c62 => ?_) (fun c62 => ?_)
    · skip
      refine wp_iconst (v := 0) dX2_reach_89 rfl ?_
      refine wp_ret (v := some (.int _)) dX2_reach_90 rfl ?_
      have c28 := bI_eq.mp c28
      refine ⟨Or.inl rfl, _, h.cnt hc (Or.inr (Or.inl rfl)) hR1, G0.sv _ _ _ _ _ _ _, fun c' hcc => ?_, Or.inr ⟨c28, rfl, ?_, ?_⟩⟩
      · rw [sV_ne (by omega), sV_ne (by omega)]; exact ⟨rfl, rfl⟩
      · rw [sV_ne (by omega)]
      · rw [sV_self]
    · skip
      refine wp_aload dX2_reach_65 rfl ?_
      refine wr_get (g := 2) (n := n) (a := c) (b := f) (k := 6) dX2_reach_67 hR1 f_X2_118 (vs2 hn hc4 hf (by decide)) (by decide) (by decide) ?_
      refine wp_if_ne (tgt := 89) dX2_reach_70 (by decide) (fun c70 => ?_) (fun c70 => ?_)
      · skip
        refine wp_iconst (v := 0) dX2_reach_89 rfl ?_
        refine wp_ret (v := some (.int _)) dX2_reach_90 rfl ?_
        have c28 := bI_eq.mp c28
        refine ⟨Or.inl rfl, _, h.cnt hc (Or.inr (Or.inl rfl)) hR1, G0.sv _ _ _ _ _ _ _, fun c' hcc => ?_, Or.inr ⟨c28, rfl, ?_, ?_⟩⟩
        · rw [sV_ne (by omega), sV_ne (by omega)]; exact ⟨rfl, rfl⟩
        · rw [sV_ne (by omega)]
        · rw [sV_self]
      · skip
        refine wp_aload dX2_reach_73 rfl ?_
        refine wp_iconst (v := 1) dX2_reach_75 rfl ?_
        refine wr_put (g := 2) (n := n) (a := c) (b := f) (k := 6) dX2_reach_76 hR1 (p_X2_118 rfl) (vs2 hn hc4 hf (by decide)) (by decide) (by decide) (okB rfl (by decide)) (fun hp4 hR3 => ?_)
        refine wp_aload_n (i := 0) dX2_reach_79 rfl rfl ?_
        refine wp_iconst (v := 0) dX2_reach_80 rfl ?_
        refine wp_iload_n (i := 1) dX2_reach_81 rfl rfl ?_
        refine wp_iload_n (i := 2) dX2_reach_82 rfl rfl ?_
        refine wp_iconst (v := 0) dX2_reach_83 rfl ?_
        refine wp_iconst (v := 0) dX2_reach_84 rfl ?_
        refine wp_iconst (v := 0) dX2_reach_85 rfl ?_
        have hS0 := h.cnt hc (Or.inr (Or.inl rfl)) hR1
        have hS1 := hS0.flag hc hf (Or.inl rfl) c62 c70 hR3
        refine wp_callV (N := mX2_send) (as := [.int (nI 0), .int (nI c), .int (nI f), .int 0, .int 0, .int 0]) dX2_reach_86 l_X2_101 v_X2_send rfl (hR3.oo (vs0 hn (k := 0) (by decide)) (by decide)) rfl (by decide) (s_sendT hS1 hn (Nat.zero_le _) hc hf (by decide) (by decide) 0 (cOk_nI (k := 0) (by decide)) ⟨by decide, Nat.zero_le _⟩) (fun v hp9 hq => ?_)
        obtain ⟨rfl, k, q, hk, hS2⟩ := hq
        refine wp_iconst (v := 0) dX2_reach_89 rfl ?_
        refine wp_ret (v := some (.int _)) dX2_reach_90 rfl ?_
        have c28 := bI_eq.mp c28
        refine ⟨Or.inl rfl, _, hS2, ((G0.sv _ _ _ _ _ _ _).trans (G0.sv _ _ _ _ _ _ _)).trans (FR_snd _ _ _ _).1, fun c' hcc => ?_, Or.inr ⟨c28, rfl, ?_, ?_⟩⟩
        · rw [snd_V, snd_V, sV_ne (by omega), sV_ne (by omega), sV_ne (by omega), sV_ne (by omega)]; exact ⟨rfl, rfl⟩
        · rw [snd_V, sV_ne (by omega), sV_ne (by omega)]
        · rw [snd_V, sV_ne (by omega), sV_self]
  · skip
    refine wp_aload_n (i := 3) dX2_reach_31 rfl rfl ?_
    refine wp_dup dX2_reach_32 rfl ?_
    refine wr_get (g := 1) (n := n) (a := c) (b := 0) (k := 7) dX2_reach_33 h.1 f_X2_109 (vs1 hn hc4 (by decide)) (by decide) (by decide) ?_
    refine wp_iconst (v := 1) dX2_reach_36 rfl ?_
    refine wp_iadd dX2_reach_37 ?_
    refine wr_put (g := 1) (n := n) (a := c) (b := 0) (k := 7) dX2_reach_38 h.1 (p_X2_109 rfl) (vs1 hn hc4 (by decide)) (by decide) (by decide) (okI rfl) (fun hp6 hR5 => ?_)
    refine wp_aload_n (i := 3) dX2_reach_41 rfl rfl ?_
    refine wp_iload_n (i := 2) dX2_reach_42 rfl rfl ?_
    have c28 := bI_ne.mp c28
    have hS1 := h.cnt hc (Or.inl rfl) hR5
    obtain ⟨l, hI⟩ := (hS1.cj hc).1
    have hfl : f ∈ l := (hI.2.2.2.1 f hf).mp (by rw [sV_ne (by omega)]; exact c28.1)
    refine wp_callV (N := mX0_use) dX2_reach_43 l_X2_112 v_X0_use rfl (hR5.oo (vs1 hn hc4 (k := 2) (by decide)) (by decide)) rfl (by decide) (s_use hR5 hn hc4 hI.1 hf (Or.inl hfl)) (fun v hp9 hq => ?_)
    obtain ⟨rfl, F, hR9, hF9⟩ := hq
    have hS2 := hS1.used hc hf hI hfl hF9 hR9
    refine wp_iconst (v := 1) dX2_reach_46 rfl ?_
    refine wp_ret (v := some (.int _)) dX2_reach_47 rfl ?_
    have hO := (Oth.co (sV M 1 n c 0 7 (gV M 1 n c 0 7 + 1)) n c (nI (useL l f).length) F [])
    have hx1 : ∀ k, k ≠ 2 → gV (cO (sV M 1 n c 0 7 (gV M 1 n c 0 7 + 1)) n c (nI (useL l f).length) F []) 1 n c 0 k = gV (sV M 1 n c 0 7 (gV M 1 n c 0 7 + 1)) 1 n c 0 k := fun k hk => hO.1 1 n c 0 k (by omega)
    refine ⟨Or.inr rfl, _, hS2, (G0.sv _ _ _ _ _ _ _).trans hO.oc.g0, fun c' hcc => ?_, Or.inl ⟨c28, rfl, ?_, ?_, fun f' k => ?_, ?_⟩⟩
    · rw [hO.1 1 n c' 0 7 (by omega), hO.1 1 n c' 0 8 (by omega), sV_ne (by omega), sV_ne (by omega)]; exact ⟨rfl, rfl⟩
    · rw [hx1 7 (by decide), sV_self]
    · rw [hx1 8 (by decide), sV_ne (by omega)]
    · rw [cO_he _ _ _ _ _ _ _ _ (Or.inl List.not_mem_nil), sV_ne (by omega)]
    · rw [cO_ord]; exact hF9 0 f rfl
end CLSEND
end
section
/-! ===== Net: what is dirty is sent ===== -/
theorem FR_oc {M M' : MS} {n c : Nat} (h : OC M M' n c) (h7 : gV M' 1 n c 0 7 = gV M 1 n c 0 7) (h8 : gV M' 1 n c 0 8 = gV M 1 n c 0 8) (h9 : vN (gV M 1 n c 0 9) ≤ vN (gV M' 1 n c 0 9)) : FR M M' n := ⟨h.g0, h.fc h7 h8 h9, h.fv⟩
/-- a step; what comes now stays -/
def MR (M M' : MS) (n clk : Nat) : Prop := FR M M' n ∧ gT M' 2 n (clk % 9) = gT M 2 n (clk % 9)
theorem MR.rfl' (M : MS) (n clk : Nat) : MR M M n clk := ⟨FR.rfl' M n, rfl⟩
theorem MR.trans {M M' M'' : MS} {n clk : Nat} (h : MR M M' n clk) (h' : MR M' M'' n clk) : MR M M'' n clk := ⟨h.1.trans h'.1, h'.2.trans h.2⟩
theorem MR_snd (M : MS) {n clk k : Nat} (hk : k ≠ clk % 9) (q : Row) : MR M (snd M n k q) n clk := ⟨FR_snd M n k q, by rw [snd_T, ap_ne (fun q => hk q.symm)]⟩
theorem MR_oc {M M' : MS} {n c clk : Nat} (h : OC M M' n c) (h7 : gV M' 1 n c 0 7 = gV M 1 n c 0 7) (h8 : gV M' 1 n c 0 8 = gV M 1 n c 0 8) (h9 : vN (gV M 1 n c 0 9) ≤ vN (gV M' 1 n c 0 9)) : MR M M' n clk := ⟨FR_oc h h7 h8 h9, (h.2.1 2 n _ (by omega)).1⟩
theorem MR_sv2 (M : MS) (n c f k clk : Nat) (v : Int32) : MR M (sV M 2 n c f k v) n clk := MR_oc (OC.sv M n c f k v) (sV_ne (by omega)) (sV_ne (by omega)) (by rw [sV_ne (by omega)]; exact Nat.le_refl _)
section DIRTY
variable {L : Nat} {xs : Nat → Int32} {d : Nat} {hp : AH} {M : MS} {zB tB n clk cc K : Nat} {D : Nat → Nat} {ev : Bool} {r j s : Nat} {e : Nat → Nat} {c f : Nat}
/-- the line is mended -/
theorem ST.mend {hp' : AH} {M1 M2 : MS} (h : ST hp M zB tB n clk cc K D ev r j s e) (hc : c < cc) (e1 : M1 = sV M 1 n c 0 6 0) (e2 : M2 = wV M1 (endE M1 n c 12)) (hR : Rep hp' M2) : ST hp' M2 zB tB n clk cc K D ev r j s e ∧ MR M M2 n clk ∧ gV M2 1 n c 0 6 = 0 := by
  obtain ⟨l, hI⟩ := (h.cj hc).1
  have hC := h.cj hc
  have hx : ∀ g n' a b k', gV M2 g n' a b k' = if g = 2 ∧ n' = n ∧ a = c ∧ b < 12 ∧ k' = 3 then -1 else if g = 1 ∧ n' = n ∧ a = c ∧ b = 0 ∧ k' = 6 then 0 else gV M g n' a b k' := by
    intro g n' a b k'
    subst e2; subst e1
    rfl
  have hy : ∀ g n' a b k', k' ≠ 3 → k' ≠ 6 → gV M2 g n' a b k' = gV M g n' a b k' := fun g n' a b k' q1 q2 => by rw [hx, if_neg (by omega), if_neg (by omega)]
  have hO : OC M M2 n c := ⟨fun g n' a b k q => by rw [hx, if_neg (by omega), if_neg (by omega)], fun _ _ _ _ => by subst e2; subst e1; exact ⟨rfl, rfl⟩, fun _ => by subst e2; subst e1; rfl⟩
  have h6 : gV M2 1 n c 0 6 = 0 := by rw [hx, if_neg (by omega), if_pos ⟨rfl, rfl, rfl, rfl, rfl⟩]
  have hT : gT M2 0 n c = gT M 0 n c := by subst e2; subst e1; rfl
  refine ⟨⟨hR, h.2.1.of (by subst e2; subst e1; rfl) (by subst e2; subst e1; rfl) (fun _ _ _ => by subst e2; subst e1; rfl), h.2.2.1.client hO (hC.of hO ⟨l, hI.of (hy _ _ _ _ _ (by decide) (by decide)) (fun k => by rw [hx, if_neg (by omega), if_neg (by omega)]) (fun _ => ⟨hy _ _ _ _ _ (by decide) (by decide), hy _ _ _ _ _ (by decide) (by decide)⟩)⟩ (hy _ _ _ _ _ (by decide) (by decide)) (fun q => absurd h6 q) (by rw [hT]; exact hC.2.2.2.2.1) (fun f' hf' => ?_) (fun q => ⟨h6, ?_⟩)), hO.bj h.2.2.2 (hy _ _ _ _ _ (by decide) (by decide)) ?_⟩, MR_oc hO (hy _ _ _ _ _ (by decide) (by decide)) (hy _ _ _ _ _ (by decide) (by decide)) (by rw [hy _ _ _ _ _ (by decide) (by decide)]; exact Nat.le_refl _), h6⟩
  · rw [hy _ _ _ _ _ (by decide) (by decide), hy _ _ _ _ _ (by decide) (by decide)]; exact hC.2.2.2.2.2.1 f' hf'
  · rw [hy _ _ _ _ _ (by decide) (by decide)]; exact (hC.2.2.2.2.2.2 q).2
  · rw [FL_eq (M := M) (M' := M2) (fun c' f' _ _ => ⟨by rw [hx, if_neg (by omega), if_neg (by omega)], hy _ _ _ _ _ (by decide) (by decide)⟩)]
    exact Nat.le_refl _
/-- what has been sent: different files, all dirty -/
def Sn (M : MS) (n c : Nat) (z : List Nat) (i : Nat) : Prop := z.length = i ∧ z.Nodup ∧ ∀ g, g ∈ z → g < 12 ∧ ¬ gV M 2 n c g 4 = 0 ∧ ¬ gV M 2 n c g 7 = 0
theorem Sn.step {z : List Nat} {i k : Nat} {q : Row} (h : Sn M n c z i) (hf : f < 12) (h4 : ¬ gV M 2 n c f 4 = 0) (h7 : gV M 2 n c f 7 = 0) : Sn (snd (sV M 2 n c f 7 1) n k q) n c (f :: z) (i + 1) := by
  obtain ⟨a1, a2, a3⟩ := h
  refine ⟨by rw [List.length_cons, a1], List.nodup_cons.mpr ⟨fun hm => (a3 f hm).2.2 h7, a2⟩, fun g hg => ?_⟩
  rw [snd_V, snd_V, sV_ne (by omega)]
  rcases List.mem_cons.mp hg with rfl | hm
  · rw [sV_self]; exact ⟨hf, h4, by decide⟩
  · obtain ⟨b1, b2, b3⟩ := a3 g hm
    by_cases e9 : g = f
    · subst e9; rw [sV_self]; exact ⟨b1, b2, by decide⟩
    · rw [sV_ne (by omega)]; exact ⟨b1, b2, b3⟩
theorem Sn.le {z l : List Nat} {i : Nat} (h : Sn M n c z i) (hI : CI M n c l) : i ≤ l.length := by
  rw [← h.1]
  exact nodup_sub h.2.1 (fun g hg => hI.2.2.2.2 g (h.2.2 g hg).1 (h.2.2 g hg).2.1)
/-- how many stores -/
def Mnd (M0 M' : MS) (n clk c : Nat) (v : Option Value) : Prop := MR M0 M' n clk ∧ gV M' 1 n c 0 6 = 0 ∧ ∃ m, v = some (.int (nI m)) ∧ m ≤ 12 ∧ ∀ l, CI M' n c l → m ≤ l.length
theorem w_mend_30 (hn : n < 2) (hc : c < cc) (hc4 : c < 4) {M0 : MS} : ∀ (m i : Nat), 12 - i = m → i ≤ 12 → ∀ (hp : AH) (M : MS), ST hp M zB tB n clk cc K D ev 0 0 0 (fun _ => 0) → MR M0 M n clk → gV M 1 n c 0 6 = 0 → (∃ z, Sn M n c z i) → ∀ (l5 : Option Value), WP L xs (d + 4) mX2_mendLine 30 [some (.ref (xi 0 n 0 0)), some (.int (nI c)), some (.ref (xi 1 n c 0)), some (.int (nI i)), some (.int (nI i)), l5] [] hp (fun v hp' => retOk mX2_mendLine.2.2.2 v ∧ ∃ M', ST hp' M' zB tB n clk cc K D ev 0 0 0 (fun _ => 0) ∧ Mnd M0 M' n clk c v) := by
  intro m
  induction m using Nat.strongRecOn with
  | ind m ih =>
    intro i hm hi0 hp M h hM h6 hz l5
    obtain ⟨z, hz⟩ := hz
    subst hm
    refine wp_iload dX2_mendLine_30 rfl ?_
    refine wp_bipush (v := nI 12) dX2_mendLine_32 (by decide) ?_
    refine wp_icmp_ge (tgt := 68) dX2_mendLine_34 (by decide) (fun c34 => ?_) (fun c34 => ?_)
    · skip
      refine wp_iload_n (i := 3) dX2_mendLine_68 rfl rfl ?_
      refine wp_ret (v := some (.int _)) dX2_mendLine_69 rfl ?_
      exact ⟨trivial, M, h, hM, h6, i, rfl, hi0, fun l hI => hz.le hI⟩
    · skip
      refine wp_aload_n (i := 2) dX2_mendLine_37 rfl rfl ?_
      refine wp_callV (N := mX0_longestDirty) (as := []) dX2_mendLine_38 l_X2_124 v_X0_longestDirty rfl (h.1.oo (vs1 hn hc4 (k := 2) (by decide)) (by decide)) rfl (by decide) (s_longest h.1 hn hc4) (fun v hp9 hq => ?_)
      obtain ⟨rfl, rr, rfl, hfd⟩ := hq
      refine wp_istore dX2_mendLine_41 (Nat.le_of_ble_eq_true rfl) ?_
      refine wp_iload dX2_mendLine_43 rfl ?_
      refine wp_iconst (v := (-1)) dX2_mendLine_45 rfl ?_
      refine wp_icmp_ne (tgt := 52) dX2_mendLine_46 (by decide) (fun c46 => ?_) (fun c46 => ?_)
      · skip
        refine wp_aload_n (i := 0) dX2_mendLine_52 rfl rfl ?_
        refine wp_iload_n (i := 1) dX2_mendLine_53 rfl rfl ?_
        refine wp_iload dX2_mendLine_54 rfl ?_
        rcases hfd with ⟨e9, -⟩ | ⟨f, hf, rfl, hdn⟩
        · exact absurd e9 c46
        refine wp_callV (N := mX2_sendStore) (as := [.int (nI c), .int (nI f)]) dX2_mendLine_56 l_X2_127 v_X2_sendStore rfl (h.1.oo (vs0 hn (k := 0) (by decide)) (by decide)) rfl (by decide) (s_sendStore h hn (Nat.zero_le _) hc hf h6 hdn.2) (fun v hp8 hq => ?_)
        obtain ⟨rfl, k, q, hk, hS2⟩ := hq
        refine wp_iinc (v := nI (i + 1)) dX2_mendLine_59 rfl (nI_1 _) ?_
        refine wp_iinc (v := nI (i + 1)) dX2_mendLine_62 rfl (nI_1 _) ?_
        refine wp_goto (tgt := 30) dX2_mendLine_65 (by decide) ?_
        have hi12 : i < 12 := (nI_ltI (by omega) (by decide)).mp c34
        exact ih (12 - (i + 1)) (by omega) (i + 1) rfl (by omega) _ _ hS2 ((hM.trans (MR_sv2 _ _ _ _ _ _ _)).trans (MR_snd _ hk q)) (by rw [snd_V, sV_ne (by omega)]; exact h6) ⟨_, hz.step hf hdn.1 hdn.2⟩ _
      · skip
        refine wp_goto (tgt := 68) dX2_mendLine_49 (by decide) ?_
        refine wp_iload_n (i := 3) dX2_mendLine_68 rfl rfl ?_
        refine wp_ret (v := some (.int _)) dX2_mendLine_69 rfl ?_
        exact ⟨trivial, M, h, hM, h6, i, rfl, hi0, fun l hI => hz.le hI⟩
/-- the line is mended, and what is dirty sent -/
theorem s_mendLine (h : ST hp M zB tB n clk cc K D ev 0 0 0 (fun _ => 0)) (hn : n < 2) (hc : c < cc) : WM L xs (d + 4) mX2_mendLine [.ref (xi 0 n 0 0), .int (nI c)] hp (fun v hp' => ∃ M', ST hp' M' zB tB n clk cc K D ev 0 0 0 (fun _ => 0) ∧ Mnd M M' n clk c v) := by
  have hc4 := h.lt hc
  refine WM.of [some (.ref _), some (.int (nI c)), none, none, none, none] (by decide) rfl (Nat.le_of_ble_eq_true rfl) ?_
  refine wp_aload_n (i := 0) dX2_mendLine_0 rfl rfl ?_
  refine wr_netR (j := rC n) dX2_mendLine_1 h.1 f_X2_23 hn (Or.inl ⟨rfl, rfl⟩) ?_
  refine wp_iload_n (i := 1) dX2_mendLine_4 rfl rfl ?_
  refine wr_aC (c := c) dX2_mendLine_5 h.1 rfl hn hc4 ?_
  refine wp_astore_n (i := 2) dX2_mendLine_6 rfl (Nat.le_of_ble_eq_true rfl) ?_
  refine wp_aload_n (i := 2) dX2_mendLine_7 rfl rfl ?_
  refine wr_get (g := 1) (n := n) (a := c) (b := 0) (k := 6) dX2_mendLine_8 h.1 f_X2_82 (vs1 hn hc4 (by decide)) (by decide) (by decide) ?_
  refine wp_if_ne (tgt := 16) dX2_mendLine_11 (by decide) (fun c11 => ?_) (fun c11 => ?_)
  · skip
    refine wp_aload_n (i := 2) dX2_mendLine_16 rfl rfl ?_
    refine wp_iconst (v := 0) dX2_mendLine_17 rfl ?_
    refine wr_put (g := 1) (n := n) (a := c) (b := 0) (k := 6) dX2_mendLine_18 h.1 (p_X2_82 rfl) (vs1 hn hc4 (by decide)) (by decide) (by decide) (okB rfl (by decide)) (fun hp2 hR1 => ?_)
    refine wp_aload_n (i := 2) dX2_mendLine_21 rfl rfl ?_
    refine wp_callV (N := mX0_endLeases) (as := []) dX2_mendLine_22 l_X2_121 v_X0_endLeases rfl (hR1.oo (vs1 hn hc4 (k := 2) (by decide)) (by decide)) rfl (by decide) (s_endLeases hR1 hn hc4) (fun v hp8 hq => ?_)
    obtain ⟨rfl, hR8⟩ := hq
    obtain ⟨hS8, hM8, h68⟩ := h.mend hc rfl rfl hR8
    refine wp_iconst (v := 0) dX2_mendLine_25 rfl ?_
    refine wp_istore_n (i := 3) dX2_mendLine_26 rfl (Nat.le_of_ble_eq_true rfl) ?_
    refine wp_iconst (v := 0) dX2_mendLine_27 rfl ?_
    refine wp_istore dX2_mendLine_28 (Nat.le_of_ble_eq_true rfl) ?_
    exact w_mend_30 hn hc hc4 12 0 rfl (by decide) _ _ hS8 hM8 h68 ⟨[], rfl, List.nodup_nil, fun g hg => absurd hg List.not_mem_nil⟩ _
  · skip
    refine wp_iconst (v := 0) dX2_mendLine_14 rfl ?_
    refine wp_ret (v := some (.int _)) dX2_mendLine_15 rfl ?_
    exact ⟨trivial, M, h, MR.rfl' _ _ _, c11, 0, rfl, by decide, fun l _ => Nat.zero_le _⟩
/-- what has been sent: different files, all dirty, all before i -/
def Sd (M : MS) (n c : Nat) (z : List Nat) (m i : Nat) : Prop := z.length = m ∧ z.Nodup ∧ ∀ g, g ∈ z → g < i ∧ ¬ gV M 2 n c g 4 = 0
theorem Sd.up {z : List Nat} {m i : Nat} (h : Sd M n c z m i) : Sd M n c z m (i + 1) := ⟨h.1, h.2.1, fun g hg => ⟨by have := (h.2.2 g hg).1; omega, (h.2.2 g hg).2⟩⟩
theorem Sd.step {z : List Nat} {m i k : Nat} {q : Row} (h : Sd M n c z m i) (h4 : ¬ gV M 2 n c i 4 = 0) : Sd (snd (sV M 2 n c i 7 1) n k q) n c (i :: z) (m + 1) (i + 1) := by
  obtain ⟨a1, a2, a3⟩ := h
  refine ⟨by rw [List.length_cons, a1], List.nodup_cons.mpr ⟨fun hm => Nat.lt_irrefl _ (a3 i hm).1, a2⟩, fun g hg => ?_⟩
  rw [snd_V, sV_ne (by omega)]
  rcases List.mem_cons.mp hg with rfl | hm
  · exact ⟨Nat.lt_succ_self _, h4⟩
  · have := a3 g hm; exact ⟨by omega, this.2⟩
theorem Sd.le {z l : List Nat} {m i : Nat} (h : Sd M n c z m i) (hi : i ≤ 12) (hI : CI M n c l) : m ≤ l.length := by
  rw [← h.1]
  exact nodup_sub h.2.1 (fun g hg => hI.2.2.2.2 g (by have := (h.2.2 g hg).1; omega) (h.2.2 g hg).2)
/-- how many stores -/
def Snt (M0 M' : MS) (n clk c : Nat) (v : Option Value) : Prop := MR M0 M' n clk ∧ ∃ m, v = some (.int (nI m)) ∧ m ≤ 12 ∧ ∀ l, CI M' n c l → m ≤ l.length
theorem w_sdirty_22 (hn : n < 2) (hc : c < cc) (hc4 : c < 4) {M0 : MS} (x : Int32) : ∀ (m i : Nat), 12 - i = m → i ≤ 12 → ∀ (p : Nat) (hp : AH) (M : MS), p ≤ i → ST hp M zB tB n clk cc K D ev 0 0 0 (fun _ => 0) → MR M0 M n clk → gV M 1 n c 0 6 = 0 → (∃ z, Sd M n c z p i) → ∀ (l6 : Option Value), WP L xs (d + 4) mX2_sendDirty 22 [some (.ref (xi 0 n 0 0)), some (.int (nI c)), some (.int x), some (.ref (xi 1 n c 0)), some (.int (nI p)), some (.int (nI i)), l6] [] hp (fun v hp' => retOk mX2_sendDirty.2.2.2 v ∧ ∃ M', ST hp' M' zB tB n clk cc K D ev 0 0 0 (fun _ => 0) ∧ Snt M0 M' n clk c v) := by
  intro m
  induction m using Nat.strongRecOn with
  | ind m ih =>
    intro i hm hi0 p hp M hpi h hM h6 hz l6
    obtain ⟨z, hz⟩ := hz
    subst hm
    refine wp_iload dX2_sendDirty_22 rfl ?_
    refine wp_bipush (v := nI 12) dX2_sendDirty_24 (by decide) ?_
    refine wp_icmp_ge (tgt := 84) dX2_sendDirty_26 (by decide) (fun c26 => ?_) (fun c26 => ?_)
    · skip
      refine wp_iload dX2_sendDirty_84 rfl ?_
      refine wp_ret (v := some (.int _)) dX2_sendDirty_86 rfl ?_
      exact ⟨trivial, M, h, hM, p, rfl, by omega, fun l hI => hz.le hi0 hI⟩
    · skip
      have hi12 : i < 12 := (nI_ltI (by omega) (by decide)).mp c26
      refine wp_aload_n (i := 3) dX2_sendDirty_29 rfl rfl ?_
      refine wr_cliR (j := rF n c) dX2_sendDirty_30 h.1 f_X2_86 hn hc4 (Or.inl ⟨rfl, rfl⟩) ?_
      refine wp_iload dX2_sendDirty_33 rfl ?_
      refine wr_aF (f := i) dX2_sendDirty_35 h.1 rfl hn hc4 hi12 ?_
      refine wp_astore dX2_sendDirty_36 (Nat.le_of_ble_eq_true rfl) ?_
      refine wp_aload dX2_sendDirty_38 rfl ?_
      refine wr_get (g := 2) (n := n) (a := c) (b := i) (k := 4) dX2_sendDirty_40 h.1 f_X2_131 (vs2 hn hc4 hi12 (by decide)) (by decide) (by decide) ?_
      refine wp_if_eq (tgt := 78) dX2_sendDirty_43 (by decide) (fun c43 => ?_) (fun c43 => ?_)
      · skip
        refine wp_iinc (v := nI (i + 1)) dX2_sendDirty_78 rfl (nI_1 _) ?_
        refine wp_goto (tgt := 22) dX2_sendDirty_81 (by decide) ?_
        exact ih (12 - (i + 1)) (by omega) (i + 1) rfl (by omega) p _ _ (by omega) h hM h6 ⟨_, hz.up⟩ _
      · skip
        refine wp_aload dX2_sendDirty_46 rfl ?_
        refine wr_get (g := 2) (n := n) (a := c) (b := i) (k := 7) dX2_sendDirty_48 h.1 f_X2_90 (vs2 hn hc4 hi12 (by decide)) (by decide) (by decide) ?_
        refine wp_if_ne (tgt := 78) dX2_sendDirty_51 (by decide) (fun c51 => ?_) (fun c51 => ?_)
        · skip
          refine wp_iinc (v := nI (i + 1)) dX2_sendDirty_78 rfl (nI_1 _) ?_
          refine wp_goto (tgt := 22) dX2_sendDirty_81 (by decide) ?_
          exact ih (12 - (i + 1)) (by omega) (i + 1) rfl (by omega) p _ _ (by omega) h hM h6 ⟨_, hz.up⟩ _
        · skip
          refine wp_aload_n (i := 0) dX2_sendDirty_54 rfl rfl ?_
          refine wr_get (g := 0) (n := n) (a := 0) (b := 0) (k := 0) dX2_sendDirty_55 h.1 f_X2_62 (vs0 hn (by decide)) (by decide) (by decide) ?_
          refine wp_aload dX2_sendDirty_58 rfl ?_
          refine wr_get (g := 2) (n := n) (a := c) (b := i) (k := 5) dX2_sendDirty_60 h.1 f_X2_134 (vs2 hn hc4 hi12 (by decide)) (by decide) (by decide) ?_
          refine wp_isub dX2_sendDirty_63 ?_
          refine wp_iload_n (i := 2) dX2_sendDirty_64 rfl rfl ?_
          refine wp_icmp_lt (tgt := 78) dX2_sendDirty_65 (by decide) (fun c65 => ?_) (fun c65 => ?_)
          · skip
            refine wp_iinc (v := nI (i + 1)) dX2_sendDirty_78 rfl (nI_1 _) ?_
            refine wp_goto (tgt := 22) dX2_sendDirty_81 (by decide) ?_
            exact ih (12 - (i + 1)) (by omega) (i + 1) rfl (by omega) p _ _ (by omega) h hM h6 ⟨_, hz.up⟩ _
          · skip
            refine wp_aload_n (i := 0) dX2_sendDirty_68 rfl rfl ?_
            refine wp_iload_n (i := 1) dX2_sendDirty_69 rfl rfl ?_
            refine wp_iload dX2_sendDirty_70 rfl ?_
            refine wp_callV (N := mX2_sendStore) (as := [.int (nI c), .int (nI i)]) dX2_sendDirty_72 l_X2_127 v_X2_sendStore rfl (h.1.oo (vs0 hn (k := 0) (by decide)) (by decide)) rfl (by decide) (s_sendStore h hn (Nat.zero_le _) hc hi12 h6 c51) (fun v hp8 hq => ?_)
            obtain ⟨rfl, k, q, hk, hS2⟩ := hq
            refine wp_iinc (v := nI (p + 1)) dX2_sendDirty_75 rfl (nI_1 _) ?_
            refine wp_iinc (v := nI (i + 1)) dX2_sendDirty_78 rfl (nI_1 _) ?_
            refine wp_goto (tgt := 22) dX2_sendDirty_81 (by decide) ?_
            exact ih (12 - (i + 1)) (by omega) (i + 1) rfl (by omega) (p + 1) _ _ (by omega) hS2 ((hM.trans (MR_sv2 _ _ _ _ _ _ _)).trans (MR_snd _ hk q)) (by rw [snd_V, sV_ne (by omega)]; exact h6) ⟨_, hz.step c43⟩ _
/-- what is dirty for some ticks is sent -/
theorem s_sendDirty (h : ST hp M zB tB n clk cc K D ev 0 0 0 (fun _ => 0)) (hn : n < 2) (hc : c < cc) (x : Int32) : WM L xs (d + 4) mX2_sendDirty [.ref (xi 0 n 0 0), .int (nI c), .int x] hp (fun v hp' => ∃ M', ST hp' M' zB tB n clk cc K D ev 0 0 0 (fun _ => 0) ∧ Snt M M' n clk c v) := by
  have hc4 := h.lt hc
  refine WM.of [some (.ref _), some (.int (nI c)), some (.int x), none, none, none, none] (by decide) rfl (Nat.le_of_ble_eq_true rfl) ?_
  refine wp_aload_n (i := 0) dX2_sendDirty_0 rfl rfl ?_
  refine wr_netR (j := rC n) dX2_sendDirty_1 h.1 f_X2_23 hn (Or.inl ⟨rfl, rfl⟩) ?_
  refine wp_iload_n (i := 1) dX2_sendDirty_4 rfl rfl ?_
  refine wr_aC (c := c) dX2_sendDirty_5 h.1 rfl hn hc4 ?_
  refine wp_astore_n (i := 3) dX2_sendDirty_6 rfl (Nat.le_of_ble_eq_true rfl) ?_
  refine wp_aload_n (i := 3) dX2_sendDirty_7 rfl rfl ?_
  refine wr_get (g := 1) (n := n) (a := c) (b := 0) (k := 6) dX2_sendDirty_8 h.1 f_X2_82 (vs1 hn hc4 (by decide)) (by decide) (by decide) ?_
  refine wp_if_eq (tgt := 16) dX2_sendDirty_11 (by decide) (fun c11 => ?_) (fun c11 => ?_)
  · skip
    refine wp_iconst (v := 0) dX2_sendDirty_16 rfl ?_
    refine wp_istore dX2_sendDirty_17 (Nat.le_of_ble_eq_true rfl) ?_
    refine wp_iconst (v := 0) dX2_sendDirty_19 rfl ?_
    refine wp_istore dX2_sendDirty_20 (Nat.le_of_ble_eq_true rfl) ?_
    exact w_sdirty_22 hn hc hc4 x 12 0 rfl (by decide) 0 _ _ (by decide) h (MR.rfl' _ _ _) c11 ⟨[], rfl, List.nodup_nil, fun g hg => absurd hg List.not_mem_nil⟩ _
  · skip
    refine wp_iconst (v := 0) dX2_sendDirty_14 rfl ?_
    refine wp_ret (v := some (.int _)) dX2_sendDirty_15 rfl ?_
    exact ⟨trivial, M, h, MR.rfl' _ _ _, 0, rfl, by decide, fun l _ => Nat.zero_le _⟩
end DIRTY
end
section
/-! ===== Net: the server's rows of requests ===== -/
theorem NJ.shelf {M M' : MS} {n clk cc : Nat} {D : Nat → Nat} {ev : Bool} (h : NJ M n clk cc D ev) (hx : ∀ g n' a b k, g ≠ 4 → g ≠ 5 → gV M' g n' a b k = gV M g n' a b k) (hT0 : ∀ a, gT M' 0 n a = gT M 0 n a) (hT2 : ∀ k, gT M' 2 n k = gT M 2 n k) (hv : ∀ f, f < 12 → vrs M n f ≤ vrs M' n f) (hs : ∀ f, f < 12 → SJ M' n cc f) : NJ M' n clk cc D ev := by
  obtain ⟨⟨b1, b2, b3, b4, b5⟩, h2, h3, h4⟩ := h
  refine ⟨⟨b1, b2, by rw [hx _ _ _ _ _ (by decide) (by decide)]; exact b3, by rw [hx _ _ _ _ _ (by decide) (by decide)]; exact b4, by rw [hx _ _ _ _ _ (by decide) (by decide)]; exact b5⟩, fun c hc => ?_, hs, fun k hk q hq => ?_⟩
  · obtain ⟨⟨l, a1⟩, a2, a3, a4, a5, a6, a7⟩ := h2 c hc
    refine ⟨⟨l, a1.of (hx _ _ _ _ _ (by decide) (by decide)) (fun _ => hx _ _ _ _ _ (by decide) (by decide)) (fun _ => ⟨hx _ _ _ _ _ (by decide) (by decide), hx _ _ _ _ _ (by decide) (by decide)⟩)⟩, by rw [hx _ _ _ _ _ (by decide) (by decide)]; exact a2, a3, ?_, by rw [hT0]; exact a5, fun f hf => ?_, ?_⟩
    · rw [hx _ _ _ _ _ (by decide) (by decide)]; intro q f hf; rw [hx _ _ _ _ _ (by decide) (by decide), hx _ _ _ _ _ (by decide) (by decide)]; exact a4 q f hf
    · obtain ⟨x1, x2, x3⟩ := a6 f hf
      unfold HJ
      rw [hx _ _ _ _ _ (by decide) (by decide), hx _ _ _ _ _ (by decide) (by decide)]
      exact ⟨x1, x2, Nat.le_trans x3 (hv f hf)⟩
    · rw [hx _ _ _ _ _ (by decide) (by decide), hx _ _ _ _ _ (by decide) (by decide)]; exact a7
  · rw [hT2] at hq
    obtain ⟨t1, ⟨f, hf, t2, t3, t4⟩, t5⟩ := h4 k hk q hq
    exact ⟨t1, ⟨f, hf, t2, t3, Nat.le_trans t4 (hv f hf)⟩, t5⟩
theorem gC_row {M : MS} {n f p : Nat} (hp : p < (gT M 1 n f).length) : ∃ q, q ∈ gT M 1 n f ∧ ∀ k, gC M 1 n f p k = q k := by
  refine ⟨(gT M 1 n f)[p], List.getElem_mem hp, fun k => ?_⟩
  show ((gT M 1 n f).getD p (fun _ => 0)) k = _
  rw [List.getD_eq_getElem?_getD, List.getElem?_eq_getElem hp]; rfl
section SERVER
variable {L : Nat} {xs : Nat → Int32} {d : Nat} {hp : AH} {M : MS} {zB tB n clk cc K : Nat} {D : Nat → Nat} {ev : Bool} {r j s : Nat} {e : Nat → Nat} {c f p : Nat}
theorem ST.sj (h : ST hp M zB tB n clk cc K D ev r j s e) (hf : f < 12) : SJ M n cc f := h.2.2.1.2.2.1 f hf
theorem ST.weak {j' s' : Nat} {e' : Nat → Nat} (h : ST hp M zB tB n clk cc K D ev r j s e) (h0 : j ≤ j') (h1 : s' + j ≤ s + j') (h2 : ∀ c, c < 4 → e' c + j ≤ e c + j') : ST hp M zB tB n clk cc K D ev r j' s' e' :=
  ⟨h.1, h.2.1, h.2.2.1, h.2.2.2.num (fun _ => rfl) (fun _ => rfl) (by omega) (fun c hc => by have := h2 c hc; omega) (fun f _ => by omega)⟩
/-- whether the first request was seen -/
theorem ST.seen {hp' : AH} {v : Int32} {e' : Nat → Nat} (h : ST hp M zB tB n clk cc K D ev r j s e) (hf : f < 12) (h1 : ∀ c, c < 4 → e' c + bz (gV M 4 n f 0 4) ≤ e c + bz v) (hR : Rep hp' (sV M 4 n f 0 4 v)) : ST hp' (sV M 4 n f 0 4 v) zB tB n clk cc K D ev r j s e' ∧ MR M (sV M 4 n f 0 4 v) n clk := by
  have hx : ∀ g n' a b k', ¬ (g = 4 ∧ n' = n ∧ a = f ∧ b = 0 ∧ k' = 4) → gV (sV M 4 n f 0 4 v) g n' a b k' = gV M g n' a b k' := fun g n' a b k' q => sV_ne q
  have hv : ∀ f', vrs (sV M 4 n f 0 4 v) n f' = vrs M n f' := fun f' => by show vN _ = vN _; rw [hx _ _ _ _ _ (by omega)]
  have hu := FF_upd (M := M) (M' := sV M 4 n f 0 4 v) (n := n) hf (fun f' _ hne => hx _ _ _ _ _ (fun q => hne q.2.2.1))
  rw [sV_self] at hu
  refine ⟨⟨hR, h.2.1.of rfl rfl (fun _ _ _ => rfl), h.2.2.1.shelf (fun g n' a b k q _ => hx _ _ _ _ _ (by omega)) (fun _ => rfl) (fun _ => rfl) (fun f' _ => by rw [hv]; exact Nat.le_refl _) (fun f' hf' => ?_), h.2.2.2.num (fun _ => rfl) (fun c => hx _ _ _ _ _ (by omega)) ?_ (fun c hc => ?_) (fun f' _ => by rw [hv, show RQ (sV M 4 n f 0 4 v) n = RQ M n from rfl]; omega)⟩, ⟨G0.sv _ _ _ _ _ _ _, fun c _ => ⟨hx _ _ _ _ _ (by omega), hx _ _ _ _ _ (by omega), by rw [hx _ _ _ _ _ (by omega)]; exact Nat.le_refl _⟩, fun f' _ => ⟨by rw [hv]; exact Nat.le_refl _, fun _ => hx _ _ _ _ _ (by omega)⟩⟩, rfl⟩
  · unfold SJ
    rw [hv, hx _ _ _ _ _ (by omega), hx _ _ _ _ _ (by omega)]
    exact h.sj hf'
  · rw [show RQ (sV M 4 n f 0 4 v) n = RQ M n from rfl, FL_eq (M := M) (M' := sV M 4 n f 0 4 v) (fun c' f' _ _ => ⟨hx _ _ _ _ _ (by omega), hx _ _ _ _ _ (by omega)⟩)]
    omega
  · rw [show RQ (sV M 4 n f 0 4 v) n = RQ M n from rfl]
    have := h1 c hc
    omega
/-- a lease -/
theorem ST.lease {hp' : AH} {v : Int32} (h : ST hp M zB tB n clk cc K D ev r j s e) (hR : Rep hp' (sV M 5 n f 0 c v)) : ST hp' (sV M 5 n f 0 c v) zB tB n clk cc K D ev r j s e ∧ MR M (sV M 5 n f 0 c v) n clk := by
  have hx : ∀ g n' a b k', g ≠ 5 → gV (sV M 5 n f 0 c v) g n' a b k' = gV M g n' a b k' := fun g n' a b k' q => sV_ne (fun p => q p.1)
  have hv : ∀ f', vrs (sV M 5 n f 0 c v) n f' = vrs M n f' := fun f' => by show vN _ = vN _; rw [hx _ _ _ _ _ (by decide)]
  refine ⟨⟨hR, h.2.1.of rfl rfl (fun _ _ _ => rfl), h.2.2.1.shelf (fun g n' a b k _ q => hx _ _ _ _ _ q) (fun _ => rfl) (fun _ => rfl) (fun f' _ => by rw [hv]; exact Nat.le_refl _) (fun f' hf' => ?_), h.2.2.2.num (fun _ => rfl) (fun c => hx _ _ _ _ _ (by decide)) ?_ (fun c' hc => ?_) (fun f' _ => by rw [hv, show RQ (sV M 5 n f 0 c v) n = RQ M n from rfl]; omega)⟩, ⟨G0.sv _ _ _ _ _ _ _, fun c _ => ⟨hx _ _ _ _ _ (by decide), hx _ _ _ _ _ (by decide), by rw [hx _ _ _ _ _ (by decide)]; exact Nat.le_refl _⟩, fun f' _ => ⟨by rw [hv]; exact Nat.le_refl _, fun _ => hx _ _ _ _ _ (by decide)⟩⟩, rfl⟩
  · unfold SJ
    rw [hv, hx _ _ _ _ _ (by decide), hx _ _ _ _ _ (by decide)]
    exact h.sj hf'
  · rw [show RQ (sV M 5 n f 0 c v) n = RQ M n from rfl, FL_eq (M := M) (M' := sV M 5 n f 0 c v) (fun c' f' _ _ => ⟨hx _ _ _ _ _ (by decide), hx _ _ _ _ _ (by decide)⟩)]
    omega
  · rw [show RQ (sV M 5 n f 0 c v) n = RQ M n from rfl, FF_eq (M := M) (M' := sV M 5 n f 0 c v) (fun f' _ => hx _ _ _ _ _ (by decide))]
    omega
/-- a store is done: content and version -/
theorem ST.stored {hp' : AH} {M2 : MS} {x : Int32} (h : ST hp M zB tB n clk cc K D ev r j s e) (hj : j ≤ RQ M n) (hf : f < 12) (hxo : cOk x) (e2 : M2 = sV (sV M 4 n f 0 0 x) 4 n f 0 1 (gV (sV M 4 n f 0 0 x) 4 n f 0 1 + 1)) (hR : Rep hp' M2) {e' : Nat → Nat} (he : ∀ c, c < 4 → e' c ≤ e c + 1) : ST hp' M2 zB tB n clk cc K D ev r (j + 1) (s + 1) e' ∧ MR M M2 n clk := by
  have hs := h.sj hf
  have hb : vrs M n f < 2 ^ 30 := by
    have h4 := h.2.2.2.2.2.2.1 f hf
    have hc := h.2.2.1.1.1
    omega
  have hx : ∀ g n' a b k', ¬ (g = 4 ∧ n' = n ∧ a = f ∧ b = 0 ∧ (k' = 0 ∨ k' = 1)) → gV M2 g n' a b k' = gV M g n' a b k' := fun g n' a b k' q => by rw [e2, sV_ne (by omega), sV_ne (by omega)]
  have h1 : gV M2 4 n f 0 1 = nI (vrs M n f + 1) := by
    rw [e2, sV_self, sV_ne (by omega), hs.2.1]
    exact nI_add _ 1
  have h0 : gV M2 4 n f 0 0 = x := by rw [e2, sV_ne (by omega), sV_self]
  have hvf : vrs M2 n f = vrs M n f + 1 := by show vN _ = _; rw [h1, vN_nI (by omega)]
  have hv : ∀ f', f' ≠ f → vrs M2 n f' = vrs M n f' := fun f' hne => by show vN _ = vN _; rw [hx _ _ _ _ _ (fun q => hne q.2.2.1)]
  have hv2 : ∀ f', vrs M n f' ≤ vrs M2 n f' ∧ vrs M2 n f' ≤ vrs M n f' + 1 := fun f' => by
    by_cases hne : f' = f
    · subst hne; omega
    · rw [hv f' hne]; omega
  have hT : ∀ y n' a, gT M2 y n' a = gT M y n' a ∧ gP M2 y n' a = gP M y n' a := fun y n' a => by subst e2; exact ⟨rfl, rfl⟩
  have hrq : RQ M2 n = RQ M n := RQ_eq (fun f _ => (hT 1 n f).1)
  refine ⟨⟨hR, h.2.1.of (by subst e2; rfl) (by subst e2; rfl) (fun y n' a => (hT y n' a).2), h.2.2.1.shelf (fun g n' a b k q _ => hx _ _ _ _ _ (by omega)) (fun a => (hT 0 n a).1) (fun a => (hT 2 n a).1) (fun f' _ => (hv2 f').1) (fun f' hf' => ?_), h.2.2.2.num (fun k => (hT 2 n k).1) (fun c => hx _ _ _ _ _ (by omega)) ?_ (fun c hc => ?_) (fun f' _ => by rw [hrq]; have := (hv2 f').2; omega)⟩, ⟨by subst e2; exact (G0.sv _ _ _ _ _ _ _).trans (G0.sv _ _ _ _ _ _ _), fun c _ => ⟨hx _ _ _ _ _ (by omega), hx _ _ _ _ _ (by omega), by rw [hx _ _ _ _ _ (by omega)]; exact Nat.le_refl _⟩, fun f' _ => ⟨(hv2 f').1, fun q => ?_⟩⟩, (hT 2 n _).1⟩
  · unfold SJ
    rw [(hT 1 n f').1]
    have h9 := h.sj hf'
    by_cases hne : f' = f
    · subst hne; rw [h0, hvf]; exact ⟨hxo, h1, h9.2.2⟩
    · rw [hv f' hne, hx _ _ _ _ _ (fun q => hne q.2.2.1), hx _ _ _ _ _ (fun q => hne q.2.2.1)]; exact h9
  · rw [hrq, FL_eq (M := M) (M' := M2) (fun c' f' _ _ => ⟨hx _ _ _ _ _ (by omega), hx _ _ _ _ _ (by omega)⟩)]
    omega
  · rw [hrq, FF_eq (M := M) (M' := M2) (fun f' _ => hx _ _ _ _ _ (by omega))]
    have := he c hc
    omega
  · by_cases hne : f' = f
    · subst hne; omega
    · exact hx _ _ _ _ _ (fun q => hne q.2.2.1)
/-- the requests that are done go -/
theorem ST.drop {hp' : AH} (h : ST hp M zB tB n clk cc K D ev r p 0 (fun _ => 0)) (hn : n < 2) (hf : f < 12) (hm : p ≤ (gT M 1 n f).length) (hR : Rep hp' (sW M (mz M) (mt M) 1 n f ((gT M 1 n f).drop p) (gP M 1 n f))) : ST hp' (sW M (mz M) (mt M) 1 n f ((gT M 1 n f).drop p) (gP M 1 n f)) zB tB n clk cc K D ev r 0 0 (fun _ => 0) ∧ MR M (sW M (mz M) (mt M) 1 n f ((gT M 1 n f).drop p) (gP M 1 n f)) n clk := by
  have hrq : RQ (sW M (mz M) (mt M) 1 n f ((gT M 1 n f).drop p) (gP M 1 n f)) n + p = RQ M n := by
    have hu := sN_upd (k := 12) (i := f) (f := fun f => (gT M 1 n f).length) (g := fun f' => (gT (sW M (mz M) (mt M) 1 n f ((gT M 1 n f).drop p) (gP M 1 n f)) 1 n f').length) hf (fun f' _ hne => by show (gT (sW M _ _ 1 n f _ _) 1 n f').length = _; rw [gT_sWn (fun q => hne q.2.2)])
    simp only [gT_sW, List.length_drop] at hu
    show sN 12 _ + p = sN 12 _
    omega
  refine ⟨⟨hR, h.2.1.gr (vt1 hn hf) (Or.inl ⟨rfl, rfl, rfl⟩) (fun q => absurd q (Nat.lt_irrefl _)), h.2.2.1.shelf (fun _ _ _ _ _ _ _ => rfl) (fun a => gT_sWn (by omega)) (fun a => gT_sWn (by omega)) (fun _ _ => Nat.le_refl _) (fun f' hf' => ?_), h.2.2.2.num (fun k => gT_sWn (by omega)) (fun _ => rfl) (by show RQ _ n + 0 + FL M n + p ≤ RQ M n + 0 + FL M n + 0; omega) (fun c _ => by show RQ _ n + 0 + FF M n + p ≤ RQ M n + 0 + FF M n + 0; omega) (fun f' _ => by show vrs M n f' + RQ _ n + p ≤ vrs M n f' + RQ M n + 0; omega)⟩, ⟨G0.sw _ _ _ _ _ _ _ _, FC.rfl' _ _, FV.rfl' _ _⟩, gT_sWn (by omega)⟩
  obtain ⟨s1, s2, s3⟩ := h.sj hf'
  refine ⟨s1, s2, fun q hq => ?_⟩
  by_cases hne : f' = f
  · subst hne; rw [gT_sW] at hq; exact s3 q (List.mem_of_mem_drop hq)
  · rw [gT_sWn (fun q => hne q.2.2)] at hq; exact s3 q hq
/-- a step that leaves the requests -/
def MU (M M' : MS) (n clk : Nat) : Prop := MR M M' n clk ∧ ∀ a, gT M' 1 n a = gT M 1 n a
theorem MU.rfl' (M : MS) (n clk : Nat) : MU M M n clk := ⟨MR.rfl' M n clk, fun _ => rfl⟩
theorem MU.trans {M M' M'' : MS} {n clk : Nat} (h : MU M M' n clk) (h' : MU M' M'' n clk) : MU M M'' n clk := ⟨h.1.trans h'.1, fun a => (h'.2 a).trans (h.2 a)⟩
theorem MU_snd (M : MS) {n clk k : Nat} (hk : k ≠ clk % 9) (q : Row) : MU M (snd M n k q) n clk := ⟨MR_snd M hk q, fun a => snd_T' _ _ _ _ (by decide) _ _⟩
theorem w_others_46 (hn : n < 2) (hf : f < 12) {M0 : MS} (x y : Int32) : ∀ (m o : Nat), cc - o = m → o ≤ cc → ∀ (hp : AH) (M : MS), ST hp M zB tB n clk cc K D ev r j 0 (fun c => if c < o then 0 else 1) → j ≤ RQ M n → MU M0 M n clk → WP L xs (d + 3) mX2_callOthers 46 [some (.ref (xi 0 n 0 0)), some (.int (nI f)), some (.int x), some (.ref (xi 4 n f 0)), some (.int y), some (.int (nI o))] [] hp (fun v hp' => retOk mX2_callOthers.2.2.2 v ∧ v = none ∧ ∃ M', ST hp' M' zB tB n clk cc K D ev r j 0 (fun _ => 0) ∧ MU M0 M' n clk) := by
  intro m
  induction m using Nat.strongRecOn with
  | ind m ih =>
    intro o hm ho0 hp M h hj hM
    obtain ⟨b1, b2, b3, b4, b5⟩ := h.2.2.1.1
    subst hm
    refine wp_iload dX2_callOthers_46 rfl ?_
    refine wp_aload_n (i := 0) dX2_callOthers_48 rfl rfl ?_
    refine wr_get (g := 0) (n := n) (a := 0) (b := 0) (k := 4) dX2_callOthers_49 h.1 f_X2_44 (vs0 hn (by decide)) (by decide) (by decide) ?_
    refine wp_icmp_ge (tgt := 93) dX2_callOthers_52 (by decide) (fun c52 => ?_) (fun c52 => ?_)
    · skip
      refine wp_ret (v := none) dX2_callOthers_93 rfl ?_
      exact ⟨trivial, rfl, M, h.weak (Nat.le_refl _) (Nat.le_refl _) (fun c' _ => by show 0 + j ≤ _; omega), hM⟩
    · skip
      rw [b4] at c52
      have hoc : o < cc := (nI_ltI (by omega) (by omega)).mp c52
      have ho4 : o < 4 := by omega
      refine wp_iload dX2_callOthers_55 rfl ?_
      refine wp_iload dX2_callOthers_57 rfl ?_
      refine wp_icmp_eq (tgt := 87) dX2_callOthers_59 (by decide) (fun c59 => ?_) (fun c59 => ?_)
      · skip
        refine wp_iinc (v := nI (o + 1)) dX2_callOthers_87 rfl (nI_1 _) ?_
        refine wp_goto (tgt := 46) dX2_callOthers_90 (by decide) ?_
        exact ih (cc - (o + 1)) (by omega) (o + 1) rfl (by omega) _ _ (h.weak (Nat.le_refl _) (Nat.le_refl _) (fun c' _ => by
          show (if c' < o + 1 then 0 else 1) + j ≤ (if c' < o then 0 else 1) + j
          split <;> split <;> omega)) hj hM
      · skip
        refine wp_aload_n (i := 3) dX2_callOthers_62 rfl rfl ?_
        refine wp_iload dX2_callOthers_63 rfl ?_
        refine wp_aload_n (i := 0) dX2_callOthers_65 rfl rfl ?_
        refine wr_get (g := 0) (n := n) (a := 0) (b := 0) (k := 0) dX2_callOthers_66 h.1 f_X2_62 (vs0 hn (by decide)) (by decide) (by decide) ?_
        refine wp_callV (N := mX3_isLeased) dX2_callOthers_69 l_X2_199 v_X3_isLeased rfl (h.1.oo (vs4 hn hf (k := 0) (by decide)) (by decide)) rfl (by decide) (s_isLeased h.1 hn hf ho4 _) (fun v hp9 hq => ?_)
        obtain ⟨rfl, rfl⟩ := hq
        refine wp_if_eq (tgt := 87) dX2_callOthers_72 (by decide) (fun c72 => ?_) (fun c72 => ?_)
        · skip
          refine wp_iinc (v := nI (o + 1)) dX2_callOthers_87 rfl (nI_1 _) ?_
          refine wp_goto (tgt := 46) dX2_callOthers_90 (by decide) ?_
          exact ih (cc - (o + 1)) (by omega) (o + 1) rfl (by omega) _ _ (h.weak (Nat.le_refl _) (Nat.le_refl _) (fun c' _ => by
            show (if c' < o + 1 then 0 else 1) + j ≤ (if c' < o then 0 else 1) + j
            split <;> split <;> omega)) hj hM
        · skip
          refine wp_aload_n (i := 0) dX2_callOthers_75 rfl rfl ?_
          refine wp_bipush (v := nI 6) dX2_callOthers_76 (by decide) ?_
          refine wp_iload dX2_callOthers_78 rfl ?_
          refine wp_iload_n (i := 1) dX2_callOthers_80 rfl rfl ?_
          refine wp_iconst (v := 0) dX2_callOthers_81 rfl ?_
          refine wp_iconst (v := 0) dX2_callOthers_82 rfl ?_
          refine wp_iconst (v := 0) dX2_callOthers_83 rfl ?_
          refine wp_callV (N := mX2_send) (as := [.int (nI 6), .int (nI o), .int (nI f), .int 0, .int 0, .int 0]) dX2_callOthers_84 l_X2_101 v_X2_send rfl (h.1.oo (vs0 hn (k := 0) (by decide)) (by decide)) rfl (by decide) (s_sendC h hn hj hoc hf 0 (e' := fun c => if c < o + 1 then 0 else 1) (fun c' _ => by
            show (if c' < o + 1 then 0 else 1) + (if c' = o then 1 else 0) ≤ if c' < o then 0 else 1
            split <;> split <;> split <;> omega)) (fun v hp8 hq => ?_)
          obtain ⟨rfl, k, q, hk, hS2⟩ := hq
          refine wp_iinc (v := nI (o + 1)) dX2_callOthers_87 rfl (nI_1 _) ?_
          refine wp_goto (tgt := 46) dX2_callOthers_90 (by decide) ?_
          exact ih (cc - (o + 1)) (by omega) (o + 1) rfl (by omega) _ _ hS2 (by rw [RQ_snd]; exact hj) (hM.trans (MU_snd _ hk q))
/-- the calls for a store that is first -/
theorem s_callOthers (h : ST hp M zB tB n clk cc K D ev r j 0 (fun _ => 0)) (hn : n < 2) (hj : j ≤ RQ M n) (hf : f < 12) (hp0 : p < (gT M 1 n f).length) : WM L xs (d + 3) mX2_callOthers [.ref (xi 0 n 0 0), .int (nI f), .int (nI p)] hp (fun v hp' => v = none ∧ ∃ M', ST hp' M' zB tB n clk cc K D ev r j 0 (fun _ => 0) ∧ MU M M' n clk) := by
  refine WM.of [some (.ref _), some (.int (nI f)), some (.int (nI p)), none, none, none] (by decide) rfl (Nat.le_of_ble_eq_true rfl) ?_
  refine wp_aload_n (i := 0) dX2_callOthers_0 rfl rfl ?_
  refine wr_netR (j := rS n) dX2_callOthers_1 h.1 f_X2_29 hn (Or.inr (Or.inl ⟨rfl, rfl⟩)) ?_
  refine wp_iload_n (i := 1) dX2_callOthers_4 rfl rfl ?_
  refine wr_aS (f := f) dX2_callOthers_5 h.1 rfl hn hf ?_
  refine wp_astore_n (i := 3) dX2_callOthers_6 rfl (Nat.le_of_ble_eq_true rfl) ?_
  refine wp_aload_n (i := 3) dX2_callOthers_7 rfl rfl ?_
  refine wr_get (g := 4) (n := n) (a := f) (b := 0) (k := 4) dX2_callOthers_8 h.1 f_X2_193 (vs4 hn hf (by decide)) (by decide) (by decide) ?_
  refine wp_if_ne (tgt := 26) dX2_callOthers_11 (by decide) (fun c11 => ?_) (fun c11 => ?_)
  · skip
    refine wp_ret (v := none) dX2_callOthers_26 rfl ?_
    refine ⟨trivial, rfl, M, h, MU.rfl' _ _ _⟩
  · skip
    refine wp_aload_n (i := 3) dX2_callOthers_14 rfl rfl ?_
    refine wr_sheR (j := xt 1 n f) dX2_callOthers_15 h.1 f_X2_179 hn hf (Or.inr ⟨rfl, rfl⟩) ?_
    refine wp_iload_n (i := 2) dX2_callOthers_18 rfl rfl ?_
    refine wp_iconst (v := 1) dX2_callOthers_19 rfl ?_
    refine wp_callV (N := mX4_get) dX2_callOthers_20 l_X2_69 v_X4_get rfl (h.1.oT (vt1 hn hf)) rfl (by decide) (s_get h.1 (vt1 hn hf) hp0 (c := 1) (by decide)) (fun v hp9 hq => ?_)
    obtain ⟨rfl, rfl⟩ := hq
    refine wp_if_ne (tgt := 27) dX2_callOthers_23 (by decide) (fun c23 => ?_) (fun c23 => ?_)
    · skip
      refine wp_aload_n (i := 3) dX2_callOthers_27 rfl rfl ?_
      refine wp_iconst (v := 1) dX2_callOthers_28 rfl ?_
      refine wr_put (g := 4) (n := n) (a := f) (b := 0) (k := 4) dX2_callOthers_29 h.1 (p_X2_193 rfl) (vs4 hn hf (by decide)) (by decide) (by decide) (okB rfl (by decide)) (fun hp2 hR1 => ?_)
      refine wp_aload_n (i := 3) dX2_callOthers_32 rfl rfl ?_
      refine wr_sheR (j := xt 1 n f) dX2_callOthers_33 hR1 f_X2_179 hn hf (Or.inr ⟨rfl, rfl⟩) ?_
      refine wp_iload_n (i := 2) dX2_callOthers_36 rfl rfl ?_
      refine wp_iconst (v := 0) dX2_callOthers_37 rfl ?_
      refine wp_callV (N := mX4_get) dX2_callOthers_38 l_X2_69 v_X4_get rfl (hR1.oT (vt1 hn hf)) rfl (by decide) (s_get hR1 (vt1 hn hf) hp0 (c := 0) (by decide)) (fun v hp9 hq => ?_)
      obtain ⟨rfl, rfl⟩ := hq
      refine wp_istore dX2_callOthers_41 (Nat.le_of_ble_eq_true rfl) ?_
      refine wp_iconst (v := 0) dX2_callOthers_43 rfl ?_
      refine wp_istore dX2_callOthers_44 (Nat.le_of_ble_eq_true rfl) ?_
      obtain ⟨hS1, hM1⟩ := h.seen (e' := fun c => if c < 0 then 0 else 1) hf (fun c' _ => by rw [c11]; show 1 + 0 ≤ 0 + 1; decide) hR1
      exact w_others_46 hn hf _ _ cc 0 rfl (Nat.zero_le _) _ _ hS1 hj ⟨hM1, fun _ => rfl⟩
    · skip
      refine wp_ret (v := none) dX2_callOthers_26 rfl ?_
      refine ⟨trivial, rfl, M, h, MU.rfl' _ _ _⟩
end SERVER
end
section
/-! ===== Net: requests are answered ===== -/
section SERVER2
variable {L : Nat} {xs : Nat → Int32} {d : Nat} {hp : AH} {M : MS} {zB tB n clk cc K : Nat} {D : Nat → Nat} {ev : Bool} {r j s : Nat} {e : Nat → Nat} {c f p : Nat}
theorem MU_sv (M : MS) {M' : MS} {n clk : Nat} (h : MR M M' n clk) (hT : ∀ a, gT M' 1 n a = gT M 1 n a) : MU M M' n clk := ⟨h, hT⟩
theorem rows_RQ (M : MS) (n : Nat) (hf : f < 12) : (gT M 1 n f).length ≤ RQ M n := sN_get (f := fun f => (gT M 1 n f).length) hf
/-- a request is answered -/
theorem s_answer (h : ST hp M zB tB n clk cc K D ev r p 0 (fun _ => 0)) (hn : n < 2) (hf : f < 12) (hp0 : p < (gT M 1 n f).length) : WM L xs (d + 3) mX2_answer [.ref (xi 0 n 0 0), .int (nI f), .int (nI p)] hp (fun v hp' => v = none ∧ ∃ M', ST hp' M' zB tB n clk cc K D ev r (p + 1) 0 (fun _ => 1) ∧ MU M M' n clk) := by
  have hrows := rows_RQ M n hf
  have hj : p ≤ RQ M n := by omega
  have hj1 : p + 1 ≤ RQ M n := by omega
  obtain ⟨b1, b2, b3, b4, b5⟩ := h.2.2.1.1
  obtain ⟨q0, hqm, hqc⟩ := gC_row hp0
  have hQ0 := (h.sj hf).2.2 q0 hqm
  unfold QJ at hQ0
  rw [← hqc 0, ← hqc 1, ← hqc 2] at hQ0
  obtain ⟨⟨c, hc, hq0⟩, hQ⟩ := hQ0
  have hc4 : c < 4 := by omega
  refine WM.of [some (.ref _), some (.int (nI f)), some (.int (nI p)), none, none, none] (by decide) rfl (Nat.le_of_ble_eq_true rfl) ?_
  refine wp_aload_n (i := 0) dX2_answer_0 rfl rfl ?_
  refine wr_netR (j := rS n) dX2_answer_1 h.1 f_X2_29 hn (Or.inr (Or.inl ⟨rfl, rfl⟩)) ?_
  refine wp_iload_n (i := 1) dX2_answer_4 rfl rfl ?_
  refine wr_aS (f := f) dX2_answer_5 h.1 rfl hn hf ?_
  refine wp_astore_n (i := 3) dX2_answer_6 rfl (Nat.le_of_ble_eq_true rfl) ?_
  refine wp_aload_n (i := 3) dX2_answer_7 rfl rfl ?_
  refine wr_sheR (j := xt 1 n f) dX2_answer_8 h.1 f_X2_179 hn hf (Or.inr ⟨rfl, rfl⟩) ?_
  refine wp_iload_n (i := 2) dX2_answer_11 rfl rfl ?_
  refine wp_iconst (v := 0) dX2_answer_12 rfl ?_
  refine wp_callV (N := mX4_get) dX2_answer_13 l_X2_69 v_X4_get rfl (h.1.oT (vt1 hn hf)) rfl (by decide) (s_get h.1 (vt1 hn hf) hp0 (c := 0) (by decide)) (fun v hp9 hq => ?_)
  obtain ⟨rfl, rfl⟩ := hq
  rw [hq0]
  refine wp_istore dX2_answer_16 (Nat.le_of_ble_eq_true rfl) ?_
  refine wp_aload_n (i := 0) dX2_answer_18 rfl rfl ?_
  refine wp_iload dX2_answer_19 rfl ?_
  refine wp_callV (N := mX2_isClient) dX2_answer_21 l_X2_147 v_X2_isClient rfl (h.1.oo (vs0 hn (k := 0) (by decide)) (by decide)) rfl (by decide) (s_isClient h.1 hn b4 hc b2) (fun v hp9 hq => ?_)
  obtain ⟨rfl, rfl⟩ := hq
  refine wp_if_ne (tgt := 28) dX2_answer_24 (by decide) (fun c24 => ?_) (fun c24 => ?_)
  · skip
    refine wp_aload_n (i := 3) dX2_answer_28 rfl rfl ?_
    refine wr_sheR (j := xt 1 n f) dX2_answer_29 h.1 f_X2_179 hn hf (Or.inr ⟨rfl, rfl⟩) ?_
    refine wp_iload_n (i := 2) dX2_answer_32 rfl rfl ?_
    refine wp_iconst (v := 1) dX2_answer_33 rfl ?_
    refine wp_callV (N := mX4_get) dX2_answer_34 l_X2_69 v_X4_get rfl (h.1.oT (vt1 hn hf)) rfl (by decide) (s_get h.1 (vt1 hn hf) hp0 (c := 1) (by decide)) (fun v hp9 hq => ?_)
    obtain ⟨rfl, rfl⟩ := hq
    refine wp_if_ne (tgt := 44) dX2_answer_37 (by decide) (fun c37 => ?_) (fun c37 => ?_)
    · skip
      refine wp_iconst (v := 0) dX2_answer_44 rfl ?_
      refine wp_istore dX2_answer_45 (Nat.le_of_ble_eq_true rfl) ?_
      refine wp_iload dX2_answer_47 rfl ?_
      refine wp_if_ne (tgt := 86) dX2_answer_49 (by decide) (fun c49 => ?_) (fun c49 => ?_)
      · skip
        exact absurd rfl c49
      · skip
        refine wp_aload_n (i := 3) dX2_answer_52 rfl rfl ?_
        refine wr_sheR (j := xt 1 n f) dX2_answer_53 h.1 f_X2_179 hn hf (Or.inr ⟨rfl, rfl⟩) ?_
        refine wp_iload_n (i := 2) dX2_answer_56 rfl rfl ?_
        refine wp_iconst (v := 3) dX2_answer_57 rfl ?_
        refine wp_callV (N := mX4_get) dX2_answer_58 l_X2_69 v_X4_get rfl (h.1.oT (vt1 hn hf)) rfl (by decide) (s_get h.1 (vt1 hn hf) hp0 (c := 3) (by decide)) (fun v hp9 hq => ?_)
        obtain ⟨rfl, rfl⟩ := hq
        refine wp_aload_n (i := 3) dX2_answer_61 rfl rfl ?_
        refine wr_get (g := 4) (n := n) (a := f) (b := 0) (k := 1) dX2_answer_62 h.1 f_X2_202 (vs4 hn hf (by decide)) (by decide) (by decide) ?_
        refine wp_icmp_eq (tgt := 86) dX2_answer_65 (by decide) (fun c65 => ?_) (fun c65 => ?_)
        · skip
          refine wp_iload dX2_answer_86 rfl ?_
          refine wp_if_ne (tgt := 114) dX2_answer_88 (by decide) (fun c88 => ?_) (fun c88 => ?_)
          · skip
            exact absurd rfl c88
          · skip
            refine wp_aload_n (i := 3) dX2_answer_91 rfl rfl ?_
            refine wp_aload_n (i := 3) dX2_answer_92 rfl rfl ?_
            refine wr_sheR (j := xt 1 n f) dX2_answer_93 h.1 f_X2_179 hn hf (Or.inr ⟨rfl, rfl⟩) ?_
            refine wp_iload_n (i := 2) dX2_answer_96 rfl rfl ?_
            refine wp_iconst (v := 2) dX2_answer_97 rfl ?_
            refine wp_callV (N := mX4_get) dX2_answer_98 l_X2_69 v_X4_get rfl (h.1.oT (vt1 hn hf)) rfl (Nat.le_of_ble_eq_true rfl) (s_get h.1 (vt1 hn hf) hp0 (c := 2) (by decide)) (fun v hp9 hq => ?_)
            obtain ⟨rfl, rfl⟩ := hq
            refine wr_put (g := 4) (n := n) (a := f) (b := 0) (k := 0) dX2_answer_101 h.1 (p_X2_203 rfl) (vs4 hn hf (by decide)) (by decide) (by decide) (okI rfl) (fun hp2 hR1 => ?_)
            refine wp_aload_n (i := 3) dX2_answer_104 rfl rfl ?_
            refine wp_dup dX2_answer_105 rfl ?_
            refine wr_get (g := 4) (n := n) (a := f) (b := 0) (k := 1) dX2_answer_106 hR1 f_X2_202 (vs4 hn hf (by decide)) (by decide) (by decide) ?_
            refine wp_iconst (v := 1) dX2_answer_109 rfl ?_
            refine wp_iadd dX2_answer_110 ?_
            refine wr_put (g := 4) (n := n) (a := f) (b := 0) (k := 1) dX2_answer_111 hR1 (p_X2_202 rfl) (vs4 hn hf (by decide)) (by decide) (by decide) (okI rfl) (fun hp4 hR3 => ?_)
            obtain ⟨hSv, hMv⟩ := h.stored (e' := fun _ => 1) hj hf hQ.2 rfl hR3 (fun _ _ => by show 1 ≤ 0 + 1; decide)
            refine wp_aload_n (i := 3) dX2_answer_114 rfl rfl ?_
            refine wr_sheR (j := xi 5 n f 0) dX2_answer_115 hR3 f_X2_161 hn hf (Or.inl ⟨rfl, rfl⟩) ?_
            refine wp_iload dX2_answer_118 rfl ?_
            refine wp_aload_n (i := 0) dX2_answer_120 rfl rfl ?_
            refine wr_get (g := 0) (n := n) (a := 0) (b := 0) (k := 0) dX2_answer_121 hR3 f_X2_62 (vs0 hn (by decide)) (by decide) (by decide) ?_
            refine wp_aload_n (i := 0) dX2_answer_124 rfl rfl ?_
            refine wr_get (g := 0) (n := n) (a := 0) (b := 0) (k := 1) dX2_answer_125 hR3 f_X2_9 (vs0 hn (by decide)) (by decide) (by decide) ?_
            refine wp_iadd dX2_answer_128 ?_
            refine wr_untP (k := c) dX2_answer_129 hR3 rfl (vs5 hn hf hc4) (fun hp6 hR5 => ?_)
            refine wp_aload_n (i := 0) dX2_answer_130 rfl rfl ?_
            refine wp_iload dX2_answer_131 rfl ?_
            refine wp_if_eq (tgt := 140) dX2_answer_133 (by decide) (fun c133 => ?_) (fun c133 => ?_)
            · skip
              refine wp_iconst (v := 4) dX2_answer_140 rfl ?_
              refine wp_iload dX2_answer_141 rfl ?_
              refine wp_iload_n (i := 1) dX2_answer_143 rfl rfl ?_
              refine wp_aload_n (i := 3) dX2_answer_144 rfl rfl ?_
              refine wr_get (g := 4) (n := n) (a := f) (b := 0) (k := 0) dX2_answer_145 hR5 f_X2_203 (vs4 hn hf (by decide)) (by decide) (by decide) ?_
              refine wp_aload_n (i := 3) dX2_answer_148 rfl rfl ?_
              refine wr_get (g := 4) (n := n) (a := f) (b := 0) (k := 1) dX2_answer_149 hR5 f_X2_202 (vs4 hn hf (by decide)) (by decide) (by decide) ?_
              refine wp_aload_n (i := 0) dX2_answer_152 rfl rfl ?_
              refine wr_get (g := 0) (n := n) (a := 0) (b := 0) (k := 0) dX2_answer_153 hR5 f_X2_62 (vs0 hn (by decide)) (by decide) (by decide) ?_
              refine wp_aload_n (i := 0) dX2_answer_156 rfl rfl ?_
              refine wr_get (g := 0) (n := n) (a := 0) (b := 0) (k := 1) dX2_answer_157 hR5 f_X2_9 (vs0 hn (by decide)) (by decide) (by decide) ?_
              refine wp_iadd dX2_answer_160 ?_
              obtain ⟨hS1, hM1⟩ := hSv.lease hR5
              refine wp_callV (N := mX2_send) (as := [.int (nI 4), .int (nI c), .int (nI f), .int _, .int _, .int _]) dX2_answer_161 l_X2_101 v_X2_send rfl (hR5.oo (vs0 hn (k := 0) (by decide)) (by decide)) rfl (by decide) (s_sendT hS1 hn (by exact hj1) hc hf (by decide) (by decide) _ (hS1.sj hf).1 ⟨(hS1.sj hf).2.1, Nat.le_refl _⟩) (fun v hp8 hq => ?_)
              obtain ⟨rfl, k, q, hk, hS2⟩ := hq
              refine wp_ret (v := none) dX2_answer_164 rfl ?_
              exact ⟨trivial, rfl, _, hS2, ((MU_sv M hMv (fun _ => rfl)).trans (MU_sv _ hM1 (fun _ => rfl))).trans (MU_snd _ hk q)⟩
            · skip
              exact absurd rfl c133
        · skip
          refine wp_aload_n (i := 0) dX2_answer_68 rfl rfl ?_
          refine wp_iconst (v := 5) dX2_answer_69 rfl ?_
          refine wp_iload dX2_answer_70 rfl ?_
          refine wp_iload_n (i := 1) dX2_answer_72 rfl rfl ?_
          refine wp_aload_n (i := 3) dX2_answer_73 rfl rfl ?_
          refine wr_get (g := 4) (n := n) (a := f) (b := 0) (k := 0) dX2_answer_74 h.1 f_X2_203 (vs4 hn hf (by decide)) (by decide) (by decide) ?_
          refine wp_aload_n (i := 3) dX2_answer_77 rfl rfl ?_
          refine wr_get (g := 4) (n := n) (a := f) (b := 0) (k := 1) dX2_answer_78 h.1 f_X2_202 (vs4 hn hf (by decide)) (by decide) (by decide) ?_
          refine wp_iconst (v := (-1)) dX2_answer_81 rfl ?_
          have hS0 := h.weak (j' := p + 1) (s' := 0 + 1) (e' := fun _ => 1) (by omega) (by omega) (fun _ _ => by show 1 + p ≤ 0 + (p + 1); omega)
          refine wp_callV (N := mX2_send) (as := [.int (nI 5), .int (nI c), .int (nI f), .int (gV M 4 n f 0 0), .int (gV M 4 n f 0 1), .int (-1)]) dX2_answer_82 l_X2_101 v_X2_send rfl (h.1.oo (vs0 hn (k := 0) (by decide)) (by decide)) rfl (by decide) (s_sendT hS0 hn hj1 hc hf (by decide) (by decide) (-1) (hS0.sj hf).1 ⟨(hS0.sj hf).2.1, Nat.le_refl _⟩) (fun v hp8 hq => ?_)
          obtain ⟨rfl, k, q, hk, hS2⟩ := hq
          refine wp_ret (v := none) dX2_answer_85 rfl ?_
          exact ⟨trivial, rfl, _, hS2, MU_snd _ hk q⟩
    · skip
      refine wp_iconst (v := 1) dX2_answer_40 rfl ?_
      refine wp_goto (tgt := 45) dX2_answer_41 (by decide) ?_
      refine wp_istore dX2_answer_45 (Nat.le_of_ble_eq_true rfl) ?_
      refine wp_iload dX2_answer_47 rfl ?_
      refine wp_if_ne (tgt := 86) dX2_answer_49 (by decide) (fun c49 => ?_) (fun c49 => ?_)
      · skip
        refine wp_iload dX2_answer_86 rfl ?_
        refine wp_if_ne (tgt := 114) dX2_answer_88 (by decide) (fun c88 => ?_) (fun c88 => ?_)
        · skip
          refine wp_aload_n (i := 3) dX2_answer_114 rfl rfl ?_
          refine wr_sheR (j := xi 5 n f 0) dX2_answer_115 h.1 f_X2_161 hn hf (Or.inl ⟨rfl, rfl⟩) ?_
          refine wp_iload dX2_answer_118 rfl ?_
          refine wp_aload_n (i := 0) dX2_answer_120 rfl rfl ?_
          refine wr_get (g := 0) (n := n) (a := 0) (b := 0) (k := 0) dX2_answer_121 h.1 f_X2_62 (vs0 hn (by decide)) (by decide) (by decide) ?_
          refine wp_aload_n (i := 0) dX2_answer_124 rfl rfl ?_
          refine wr_get (g := 0) (n := n) (a := 0) (b := 0) (k := 1) dX2_answer_125 h.1 f_X2_9 (vs0 hn (by decide)) (by decide) (by decide) ?_
          refine wp_iadd dX2_answer_128 ?_
          refine wr_untP (k := c) dX2_answer_129 h.1 rfl (vs5 hn hf hc4) (fun hp8 hR7 => ?_)
          refine wp_aload_n (i := 0) dX2_answer_130 rfl rfl ?_
          refine wp_iload dX2_answer_131 rfl ?_
          refine wp_if_eq (tgt := 140) dX2_answer_133 (by decide) (fun c133 => ?_) (fun c133 => ?_)
          · skip
            exact absurd c133 (by decide)
          · skip
            refine wp_iconst (v := 3) dX2_answer_136 rfl ?_
            refine wp_goto (tgt := 141) dX2_answer_137 (by decide) ?_
            refine wp_iload dX2_answer_141 rfl ?_
            refine wp_iload_n (i := 1) dX2_answer_143 rfl rfl ?_
            refine wp_aload_n (i := 3) dX2_answer_144 rfl rfl ?_
            refine wr_get (g := 4) (n := n) (a := f) (b := 0) (k := 0) dX2_answer_145 hR7 f_X2_203 (vs4 hn hf (by decide)) (by decide) (by decide) ?_
            refine wp_aload_n (i := 3) dX2_answer_148 rfl rfl ?_
            refine wr_get (g := 4) (n := n) (a := f) (b := 0) (k := 1) dX2_answer_149 hR7 f_X2_202 (vs4 hn hf (by decide)) (by decide) (by decide) ?_
            refine wp_aload_n (i := 0) dX2_answer_152 rfl rfl ?_
            refine wr_get (g := 0) (n := n) (a := 0) (b := 0) (k := 0) dX2_answer_153 hR7 f_X2_62 (vs0 hn (by decide)) (by decide) (by decide) ?_
            refine wp_aload_n (i := 0) dX2_answer_156 rfl rfl ?_
            refine wr_get (g := 0) (n := n) (a := 0) (b := 0) (k := 1) dX2_answer_157 hR7 f_X2_9 (vs0 hn (by decide)) (by decide) (by decide) ?_
            refine wp_iadd dX2_answer_160 ?_
            have hS0 := h.weak (j' := p + 1) (s' := 0 + 1) (e' := fun _ => 1) (by omega) (by omega) (fun _ _ => by show 1 + p ≤ 0 + (p + 1); omega)
            obtain ⟨hS1, hM1⟩ := hS0.lease hR7
            refine wp_callV (N := mX2_send) (as := [.int (nI 3), .int (nI c), .int (nI f), .int _, .int _, .int _]) dX2_answer_161 l_X2_101 v_X2_send rfl (hR7.oo (vs0 hn (k := 0) (by decide)) (by decide)) rfl (by decide) (s_sendT hS1 hn (by exact hj1) hc hf (by decide) (by decide) _ (hS1.sj hf).1 ⟨(hS1.sj hf).2.1, Nat.le_refl _⟩) (fun v hp8 hq => ?_)
            obtain ⟨rfl, k, q, hk, hS2⟩ := hq
            refine wp_ret (v := none) dX2_answer_164 rfl ?_
            exact ⟨trivial, rfl, _, hS2, (MU_sv M hM1 (fun _ => rfl)).trans (MU_snd _ hk q)⟩
        · skip
          exact absurd c88 (by decide)
      · skip
        exact absurd c49 (by decide)
  · skip
    exact absurd c24 (by decide)
theorem w_look_18 (hn : n < 2) (hf : f < 12) {M0 : MS} {w : Nat} (hw2 : w ≤ 1248) : ∀ (m p : Nat), w - p = m → p ≤ w → ∀ (hp : AH) (M : MS), ST hp M zB tB n clk cc K D ev r p 0 (fun _ => 0) → (gT M 1 n f).length = w → MR M0 M n clk → WP L xs (d + 4) mX2_lookAtFirst 18 [some (.ref (xi 0 n 0 0)), some (.int (nI f)), some (.ref (xi 4 n f 0)), some (.int (nI w)), some (.int (nI p))] [] hp (fun v hp' => retOk mX2_lookAtFirst.2.2.2 v ∧ v = none ∧ ∃ M', ST hp' M' zB tB n clk cc K D ev r 0 0 (fun _ => 0) ∧ MR M0 M' n clk) := by
  intro m
  induction m using Nat.strongRecOn with
  | ind m ih =>
    intro p hm hp0 hp M h hw hM
    subst hm
    refine wp_iload dX2_lookAtFirst_18 rfl ?_
    refine wp_iload_n (i := 3) dX2_lookAtFirst_20 rfl rfl ?_
    refine wp_icmp_ge (tgt := 65) dX2_lookAtFirst_21 (by decide) (fun c21 => ?_) (fun c21 => ?_)
    · skip
      refine wp_aload_n (i := 2) dX2_lookAtFirst_65 rfl rfl ?_
      refine wr_sheR (j := xt 1 n f) dX2_lookAtFirst_66 h.1 f_X2_179 hn hf (Or.inr ⟨rfl, rfl⟩) ?_
      refine wp_iload dX2_lookAtFirst_69 rfl ?_
      refine wp_callV (N := mX4_dropFirst) (as := [.int (nI p)]) dX2_lookAtFirst_71 l_X2_196 v_X4_dropFirst rfl (h.1.oT (vt1 hn hf)) rfl (by decide) (s_dropFirst h.1 (vt1 hn hf) (m := p) (by omega)) (fun v hp6 hq => ?_)
      obtain ⟨rfl, hR6⟩ := hq
      obtain ⟨hS6, hM6⟩ := h.drop hn hf (by omega) hR6
      have hT6 := (hM).trans hM6
      refine wp_ret (v := none) dX2_lookAtFirst_74 rfl ?_
      exact ⟨trivial, rfl, _, hS6, hT6⟩
    · skip
      refine wp_aload_n (i := 0) dX2_lookAtFirst_24 rfl rfl ?_
      refine wp_iload_n (i := 1) dX2_lookAtFirst_25 rfl rfl ?_
      refine wp_iload dX2_lookAtFirst_26 rfl ?_
      have hpw : p < w := (nI_ltI (by omega) (by omega)).mp c21
      have hrows := rows_RQ M n hf
      refine wp_callV (N := mX2_callOthers) dX2_lookAtFirst_28 l_X2_183 v_X2_callOthers rfl (h.1.oo (vs0 hn (k := 0) (by decide)) (by decide)) rfl (by decide) (s_callOthers h hn (by omega) hf (by omega)) (fun v hp9 hq => ?_)
      obtain ⟨rfl, M1, hS1, hM1⟩ := hq
      refine wp_aload_n (i := 2) dX2_lookAtFirst_31 rfl rfl ?_
      refine wp_iload dX2_lookAtFirst_32 rfl ?_
      refine wp_aload_n (i := 0) dX2_lookAtFirst_34 rfl rfl ?_
      refine wr_get (g := 0) (n := n) (a := 0) (b := 0) (k := 0) dX2_lookAtFirst_35 hS1.1 f_X2_62 (vs0 hn (by decide)) (by decide) (by decide) ?_
      refine wp_callV (N := mX3_hasToWait) dX2_lookAtFirst_38 l_X2_186 v_X3_hasToWait rfl (hS1.1.oo (vs4 hn hf (k := 0) (by decide)) (by decide)) rfl (by decide) (s_hasToWait hS1.1 hn hf (by rw [hM1.2]; omega) _) (fun v hp8 hq => ?_)
      obtain ⟨rfl, hv9⟩ := hq
      obtain ⟨vv, rfl⟩ : ∃ vv, v = some (.int vv) := by rcases hv9 with ⟨_, h9⟩ | ⟨_, h9⟩ <;> exact ⟨_, h9⟩
      refine wp_if_eq (tgt := 47) dX2_lookAtFirst_41 (by decide) (fun c41 => ?_) (fun c41 => ?_)
      · skip
        refine wp_aload_n (i := 0) dX2_lookAtFirst_47 rfl rfl ?_
        refine wp_iload_n (i := 1) dX2_lookAtFirst_48 rfl rfl ?_
        refine wp_iload dX2_lookAtFirst_49 rfl ?_
        refine wp_callV (N := mX2_answer) dX2_lookAtFirst_51 l_X2_190 v_X2_answer rfl (hS1.1.oo (vs0 hn (k := 0) (by decide)) (by decide)) rfl (by decide) (s_answer hS1 hn hf (by rw [hM1.2]; omega)) (fun v hp7 hq => ?_)
        obtain ⟨rfl, M2, hS2, hM2⟩ := hq
        refine wp_aload_n (i := 2) dX2_lookAtFirst_54 rfl rfl ?_
        refine wp_iconst (v := 0) dX2_lookAtFirst_55 rfl ?_
        refine wr_put (g := 4) (n := n) (a := f) (b := 0) (k := 4) dX2_lookAtFirst_56 hS2.1 (p_X2_193 rfl) (vs4 hn hf (by decide)) (by decide) (by decide) (okB rfl (by decide)) (fun hp2 hR1 => ?_)
        refine wp_iinc (v := nI (p + 1)) dX2_lookAtFirst_59 rfl (nI_1 _) ?_
        refine wp_goto (tgt := 18) dX2_lookAtFirst_62 (by decide) ?_
        obtain ⟨hS3, hM3⟩ := hS2.seen (e' := fun _ => 0) hf (fun _ _ => by have := bz_le (gV M2 4 n f 0 4); show 0 + _ ≤ 1 + bz 0; omega) hR1
        exact ih (w - (p + 1)) (by omega) (p + 1) rfl (by omega) _ _ hS3 (by show (gT M2 1 n f).length = w; rw [hM2.2, hM1.2]; exact hw) (((hM.trans hM1.1).trans hM2.1).trans hM3)
      · skip
        refine wp_goto (tgt := 65) dX2_lookAtFirst_44 (by decide) ?_
        refine wp_aload_n (i := 2) dX2_lookAtFirst_65 rfl rfl ?_
        refine wr_sheR (j := xt 1 n f) dX2_lookAtFirst_66 hS1.1 f_X2_179 hn hf (Or.inr ⟨rfl, rfl⟩) ?_
        refine wp_iload dX2_lookAtFirst_69 rfl ?_
        refine wp_callV (N := mX4_dropFirst) (as := [.int (nI p)]) dX2_lookAtFirst_71 l_X2_196 v_X4_dropFirst rfl (hS1.1.oT (vt1 hn hf)) rfl (by decide) (s_dropFirst hS1.1 (vt1 hn hf) (m := p) (by rw [hM1.2]; omega)) (fun v hp6 hq => ?_)
        obtain ⟨rfl, hR6⟩ := hq
        obtain ⟨hS6, hM6⟩ := hS1.drop hn hf (by rw [hM1.2]; omega) hR6
        have hT6 := (hM.trans hM1.1).trans hM6
        refine wp_ret (v := none) dX2_lookAtFirst_74 rfl ?_
        exact ⟨trivial, rfl, _, hS6, hT6⟩
/-- the first requests are done -/
theorem s_lookAtFirst (h : ST hp M zB tB n clk cc K D ev r 0 0 (fun _ => 0)) (hn : n < 2) (hf : f < 12) : WM L xs (d + 4) mX2_lookAtFirst [.ref (xi 0 n 0 0), .int (nI f)] hp (fun v hp' => v = none ∧ ∃ M', ST hp' M' zB tB n clk cc K D ev r 0 0 (fun _ => 0) ∧ MR M M' n clk) := by
  refine WM.of [some (.ref _), some (.int (nI f)), none, none, none] (by decide) rfl (Nat.le_of_ble_eq_true rfl) ?_
  refine wp_aload_n (i := 0) dX2_lookAtFirst_0 rfl rfl ?_
  refine wr_netR (j := rS n) dX2_lookAtFirst_1 h.1 f_X2_29 hn (Or.inr (Or.inl ⟨rfl, rfl⟩)) ?_
  refine wp_iload_n (i := 1) dX2_lookAtFirst_4 rfl rfl ?_
  refine wr_aS (f := f) dX2_lookAtFirst_5 h.1 rfl hn hf ?_
  refine wp_astore_n (i := 2) dX2_lookAtFirst_6 rfl (Nat.le_of_ble_eq_true rfl) ?_
  refine wp_aload_n (i := 2) dX2_lookAtFirst_7 rfl rfl ?_
  refine wr_sheR (j := xt 1 n f) dX2_lookAtFirst_8 h.1 f_X2_179 hn hf (Or.inr ⟨rfl, rfl⟩) ?_
  refine wr_rows dX2_lookAtFirst_11 h.1 f_X2_59 (vt1 hn hf) ?_
  refine wp_istore_n (i := 3) dX2_lookAtFirst_14 rfl (Nat.le_of_ble_eq_true rfl) ?_
  refine wp_iconst (v := 0) dX2_lookAtFirst_15 rfl ?_
  refine wp_istore dX2_lookAtFirst_16 (Nat.le_of_ble_eq_true rfl) ?_
  have hrows := rows_RQ M n hf
  have hb := BB.reqs h.2.2.2
  exact w_look_18 hn hf (by omega) _ 0 rfl (Nat.zero_le _) _ _ h rfl (MR.rfl' _ _ _)
end SERVER2
end
section
/-! ===== what comes, I ===== -/
section COME
variable {L : Nat} {xs : Nat → Int32} {d : Nat} {hp : AH} {M : MS} {zB tB n clk cc K : Nat} {D : Nat → Nat} {ev : Bool} {r j s : Nat} {e : Nat → Nat} {c f p : Nat}
/-- the next -/
theorem ST.next {q0 : Row} {s' : Nat} (h : ST hp M zB tB n clk cc K D ev r j s e) (h0 : (gT M 2 n (clk % 9))[r]? = some q0) (hs : s' ≤ s + if kdTh q0 then 1 else 0) : ST hp M zB tB n clk cc K D ev (r + 1) j s' e :=
  ⟨h.1, h.2.1, h.2.2.1, BB.next h.2.2.2 h0 hs⟩
/-- one more thing is lost -/
theorem ST.lost {hp' : AH} {v : Int32} (h : ST hp M zB tB n clk cc K D ev r j s e) (hc : c < cc) (hev : ev = true) (hR : Rep hp' (sV M 1 n c 0 11 v)) : ST hp' (sV M 1 n c 0 11 v) zB tB n clk cc K D ev r j s e ∧ MR M (sV M 1 n c 0 11 v) n clk := by
  obtain ⟨l, hI⟩ := (h.cj hc).1
  have hC := h.cj hc
  have hO := OC.sv1 M n c 11 v
  have hx : ∀ g n' a b k', ¬ (g = 1 ∧ n' = n ∧ a = c ∧ b = 0 ∧ k' = 11) → gV (sV M 1 n c 0 11 v) g n' a b k' = gV M g n' a b k' := fun g n' a b k' q => sV_ne q
  refine ⟨⟨hR, h.2.1.of rfl rfl (fun _ _ _ => rfl), h.2.2.1.client hO (hC.of hO ⟨l, hI.of (hx _ _ _ _ _ (by omega)) (fun _ => hx _ _ _ _ _ (by omega)) (fun _ => ⟨hx _ _ _ _ _ (by omega), hx _ _ _ _ _ (by omega)⟩)⟩ (hx _ _ _ _ _ (by omega)) (fun q => ?_) hC.2.2.2.2.1 (fun f' hf' => ?_) (fun q => ?_)), hO.bj h.2.2.2 (hx _ _ _ _ _ (by omega)) ?_⟩, MR_oc hO (hx _ _ _ _ _ (by omega)) (hx _ _ _ _ _ (by omega)) (by rw [hx _ _ _ _ _ (by omega)]; exact Nat.le_refl _)⟩
  · rw [hx _ _ _ _ _ (by omega)] at q
    intro f hf
    rw [hx _ _ _ _ _ (by omega), hx _ _ _ _ _ (by omega)]; exact hC.2.2.2.1 q f hf
  · rw [hx _ _ _ _ _ (by omega), hx _ _ _ _ _ (by omega)]; exact hC.2.2.2.2.2.1 f' hf'
  · rw [hev] at q; exact absurd q (by decide)
  · rw [FL_eq (M := M) (M' := sV M 1 n c 0 11 v) (fun c' f' _ _ => ⟨hx _ _ _ _ _ (by omega), hx _ _ _ _ _ (by omega)⟩)]
    exact Nat.le_refl _
/-- a request comes -/
theorem ST.req {hp' : AH} {q0 q : Row} (h : ST hp M zB tB n clk cc K D ev r 0 0 (fun _ => 0)) (hn : n < 2) (hf : f < 12) (h0 : (gT M 2 n (clk % 9))[r]? = some q0) (hq0 : kdR q0 = true) (hq : QJ cc q) (hR : Rep hp' (sW M (aZ M 1 n f) (aT M 1 n f) 1 n f (gT M 1 n f ++ [q]) (aP M 1 n f))) : ST hp' (sW M (aZ M 1 n f) (aT M 1 n f) 1 n f (gT M 1 n f ++ [q]) (aP M 1 n f)) zB tB n clk cc K D ev (r + 1) 0 0 (fun _ => 0) ∧ MR M (sW M (aZ M 1 n f) (aT M 1 n f) 1 n f (gT M 1 n f ++ [q]) (aP M 1 n f)) n clk := by
  have hB := BB.req h.2.2.2 h0 hq0
  have hb := BB.reqs hB
  have hrows := rows_RQ M n hf
  have hrq : RQ (sW M (aZ M 1 n f) (aT M 1 n f) 1 n f (gT M 1 n f ++ [q]) (aP M 1 n f)) n = RQ M n + 1 := by
    have hu := sN_upd (k := 12) (i := f) (f := fun f => (gT M 1 n f).length) (g := fun f' => (gT (sW M (aZ M 1 n f) (aT M 1 n f) 1 n f (gT M 1 n f ++ [q]) (aP M 1 n f)) 1 n f').length) hf (fun f' _ hne => by show (gT (sW M _ _ 1 n f _ _) 1 n f').length = _; rw [gT_sWn (fun q => hne q.2.2)])
    simp only [gT_sW, List.length_append, List.length_singleton] at hu
    show sN 12 _ = sN 12 _ + 1
    omega
  refine ⟨⟨hR, h.2.1.add h.1 (vt1 hn hf) (by show _ ≤ 2600; omega), h.2.2.1.shelf (fun _ _ _ _ _ _ _ => rfl) (fun a => gT_sWn (by omega)) (fun a => gT_sWn (by omega)) (fun _ _ => Nat.le_refl _) (fun f' hf' => ?_), ?_⟩, ⟨G0.sw _ _ _ _ _ _ _ _, FC.rfl' _ _, FV.rfl' _ _⟩, gT_sWn (by omega)⟩
  · obtain ⟨s1, s2, s3⟩ := h.sj hf'
    refine ⟨s1, s2, fun q' hq' => ?_⟩
    by_cases hne : f' = f
    · subst hne
      rw [gT_sW, List.mem_append, List.mem_singleton] at hq'
      rcases hq' with hq' | hq'
      · exact s3 q' hq'
      · subst hq'; exact hq
    · rw [gT_sWn (fun q => hne q.2.2)] at hq'; exact s3 q' hq'
  · unfold BJ
    rw [hrq, show (fun k => gT (sW M (aZ M 1 n f) (aT M 1 n f) 1 n f (gT M 1 n f ++ [q]) (aP M 1 n f)) 2 n k) = (fun k => gT M 2 n k) from funext (fun k => gT_sWn (by omega))]
    exact hB
/-- the flags of one file of a client -/
theorem FL_one {M' : MS} (hc : c < 4) (hf : f < 12) (hO : OC M M' n c) (h : ∀ g, g ≠ f → gV M' 2 n c g 6 = gV M 2 n c g 6 ∧ gV M' 2 n c g 7 = gV M 2 n c g 7) (h1 : gV M' 2 n c f 6 = gV M 2 n c f 6 ∨ gV M' 2 n c f 7 = gV M 2 n c f 7) : FL M n ≤ FL M' n + 1 := by
  have hu := FL_upd (M := M) (M' := M') (n := n) hc hf (fun c' f' _ _ hne => by
    by_cases hcc : c' = c
    · subst hcc; exact h f' (fun q => hne ⟨rfl, q⟩)
    · exact ⟨hO.1 2 n c' f' 6 (fun q => hcc q.2.1), hO.1 2 n c' f' 7 (fun q => hcc q.2.1)⟩)
  have b1 := bz_le (gV M 2 n c f 6)
  have b2 := bz_le (gV M 2 n c f 7)
  rcases h1 with e9 | e9 <;> rw [e9] at hu <;> omega
/-- contents and versions -/
theorem HR.hj {M' : MS} {x w : Int32} (hH : HR M M' n c f x w) (hh : ∀ f, f < 12 → HJ M n c f) (hx : cOk x) (hw : w = nI (vN w) ∧ vN w ≤ vrs M n f) : ∀ f', f' < 12 → cOk (gV M' 2 n c f' 1) ∧ gV M' 2 n c f' 2 = nI (vN (gV M' 2 n c f' 2)) ∧ vN (gV M' 2 n c f' 2) ≤ vrs M n f' := by
  intro f' hf'
  obtain ⟨a1, a2, a3⟩ := hh f' hf'
  refine ⟨?_, ?_⟩
  · rcases hH.1 f' with q | ⟨-, q⟩
    · rw [q]; exact a1
    · rw [q]; exact hx
  · rcases hH.2.1 f' with q | ⟨e9, q⟩
    · rw [q]; exact ⟨a2, a3⟩
    · rw [q, e9]; exact hw
/-- a file is given -/
theorem ST.given {hp' : AH} {M' : MS} {x w : Int32} (h : ST hp M zB tB n clk cc K D ev r j (s + 1) e) (hc : c < cc) (hf : f < 12) (hx : cOk x) (hw : w = nI (vN w) ∧ vN w ≤ vrs M n f) (h6 : gV M 1 n c 0 6 = 0) (hG : GvR M M' n c f x w) (hR : Rep hp' M') : ST hp' M' zB tB n clk cc K D ev r j s e ∧ MR M M' n clk := by
  have hC := h.cj hc
  obtain ⟨g1, g2, g3, g4, g5⟩ := hG
  have hO := g2.oc
  have hk : ∀ k, k ≠ 2 → gV M' 1 n c 0 k = gV M 1 n c 0 k := fun k hk => g2.1 1 n c 0 k (by omega)
  have hT : ∀ y n' a, gT M' y n' a = gT M y n' a ∧ gP M' y n' a = gP M y n' a := fun y n' a => by unfold gT gP; rw [g2.2.2.2]; exact ⟨rfl, rfl⟩
  refine ⟨⟨hR, h.2.1.of g2.2.1 g2.2.2.1 (fun y n' a => (hT y n' a).2), h.2.2.1.client hO (hC.of hO g1 (hk 4 (by decide)) (fun q => absurd ((hk 6 (by decide)).trans h6) q) (by rw [(hT 0 n c).1]; exact hC.2.2.2.2.1) (g3.hj hC.2.2.2.2.2.1 hx hw) (fun q => by rw [hk 6 (by decide), hk 11 (by decide)]; exact hC.2.2.2.2.2.2 q)), hO.bj h.2.2.2 (hk 9 (by decide)) (by have := FL_one (h.lt hc) hf hO g3.2.2 (Or.inr g5); omega)⟩, MR_oc hO (hk 7 (by decide)) (hk 8 (by decide)) (by rw [hk 9 (by decide)]; exact Nat.le_refl _)⟩
theorem stored_get (M : MS) (n c f : Nat) (x w u : Int32) (g n' a b k : Nat) (hg : ¬ (g = 2 ∧ n' = n ∧ a = c ∧ b = f)) : gV (mStored M n c f x w u) g n' a b k = gV M g n' a b k := by
  unfold mStored
  split
  · rw [sV_ne (by omega)]
  · split
    · rw [sV_ne (by omega), sV_ne (by omega), sV_ne (by omega), sV_ne (by omega)]
    · rw [sV_ne (by omega), sV_ne (by omega), sV_ne (by omega)]
theorem stored_own (M : MS) (n c f : Nat) (x w u : Int32) : gV (mStored M n c f x w u) 2 n c f 0 = gV M 2 n c f 0 ∧ gV (mStored M n c f x w u) 2 n c f 1 = gV M 2 n c f 1 ∧ (gV (mStored M n c f x w u) 2 n c f 2 = gV M 2 n c f 2 ∨ gV (mStored M n c f x w u) 2 n c f 2 = w) ∧ (gV (mStored M n c f x w u) 2 n c f 4 = gV M 2 n c f 4 ∨ gV (mStored M n c f x w u) 2 n c f 4 = 0) ∧ gV (mStored M n c f x w u) 2 n c f 6 = gV M 2 n c f 6 := by
  unfold mStored
  split
  · simp [gV_sV]
  · split
    · simp [gV_sV]
    · simp [gV_sV]
theorem stored_T (M : MS) (n c f : Nat) (x w u : Int32) : mz (mStored M n c f x w u) = mz M ∧ mt (mStored M n c f x w u) = mt M ∧ (∀ y n' a, gT (mStored M n c f x w u) y n' a = gT M y n' a ∧ gP (mStored M n c f x w u) y n' a = gP M y n' a) ∧ ∀ i, gX (mStored M n c f x w u) i = gX M i := by
  unfold mStored
  split
  · exact ⟨rfl, rfl, fun _ _ _ => ⟨rfl, rfl⟩, fun _ => rfl⟩
  · split <;> exact ⟨rfl, rfl, fun _ _ _ => ⟨rfl, rfl⟩, fun _ => rfl⟩
/-- a file is stored -/
theorem ST.kept {hp' : AH} {x w u : Int32} (h : ST hp M zB tB n clk cc K D ev r j (s + 1) e) (hc : c < cc) (hf : f < 12) (hw : w = nI (vN w) ∧ vN w ≤ vrs M n f) (h6 : gV M 1 n c 0 6 = 0) (hR : Rep hp' (mStored M n c f x w u)) : ST hp' (mStored M n c f x w u) zB tB n clk cc K D ev r j s e ∧ MR M (mStored M n c f x w u) n clk := by
  have hC := h.cj hc
  obtain ⟨l, i1, i2, i3, i4, i5⟩ := hC.1
  obtain ⟨o0, o1, o2, o4, o6⟩ := stored_own M n c f x w u
  obtain ⟨t1, t2, t3, t4⟩ := stored_T M n c f x w u
  have hg := stored_get M n c f x w u
  have hO : OC M (mStored M n c f x w u) n c := ⟨fun g n' a b k q => hg g n' a b k (fun p => q ⟨p.2.1, p.2.2.1, by omega⟩), fun y n' a _ => t3 y n' a, t4⟩
  have hk : ∀ k, gV (mStored M n c f x w u) 1 n c 0 k = gV M 1 n c 0 k := fun k => hg _ _ _ _ _ (by omega)
  have hI : CI (mStored M n c f x w u) n c l := by
    refine ⟨i1.oth (hk 2) (fun k => hg _ _ _ _ _ (by omega)), i2, i3, fun g hgl => ?_, fun g hgl hd => ?_⟩
    · by_cases e9 : g = f
      · subst e9; rw [o0]; exact i4 g hgl
      · rw [hg _ _ _ _ _ (by omega)]; exact i4 g hgl
    · by_cases e9 : g = f
      · subst e9
        rcases o4 with q | q
        · rw [q] at hd; exact i5 g hgl hd
        · exact absurd q hd
      · rw [hg _ _ _ _ _ (by omega)] at hd; exact i5 g hgl hd
  refine ⟨⟨hR, h.2.1.of t1 t2 (fun y n' a => (t3 y n' a).2), h.2.2.1.client hO (hC.of hO ⟨l, hI⟩ (hk 4) (fun q => absurd ((hk 6).trans h6) q) (by rw [(t3 0 n c).1]; exact hC.2.2.2.2.1) (fun f' hf' => ?_) (fun q => by rw [hk 6, hk 11]; exact hC.2.2.2.2.2.2 q)), hO.bj h.2.2.2 (hk 9) (by have := FL_one (h.lt hc) hf hO (fun g hne => ⟨hg _ _ _ _ _ (by omega), hg _ _ _ _ _ (by omega)⟩) (Or.inl o6); omega)⟩, MR_oc hO (hk 7) (hk 8) (by rw [hk 9]; exact Nat.le_refl _)⟩
  obtain ⟨a1, a2, a3⟩ := hC.2.2.2.2.2.1 f' hf'
  by_cases e9 : f' = f
  · subst e9
    rw [o1]
    refine ⟨a1, ?_⟩
    rcases o2 with q | q
    · rw [q]; exact ⟨a2, a3⟩
    · rw [q]; exact hw
  · rw [hg _ _ _ _ _ (by omega), hg _ _ _ _ _ (by omega)]; exact ⟨a1, a2, a3⟩
/-- a CLASH has come -/
theorem ST.clash {hp' : AH} {M' : MS} {x w : Int32} {q0 : Row} (h : ST hp M zB tB n clk cc K D ev r j s e) (hn : n < 2) (hc : c < cc) (hf : f < 12) (hx : cOk x) (hw : w = nI (vN w) ∧ vN w ≤ vrs M n f) (h6 : gV M 1 n c 0 6 = 0) (h0 : (gT M 2 n (clk % 9))[r]? = some q0) (hq0 : kdTh q0 = true) (hG : ClR M M' n c f x w) (hR : Rep hp' M') : ST hp' M' zB tB n clk cc K D ev (r + 1) j s e ∧ MR M M' n clk ∧ gV M' 1 n c 0 6 = 0 ∧ gV M' 2 n c f 7 = 0 := by
  have hC := h.cj hc
  obtain ⟨g1, g2, g3, g4, g5, g6, g7, g8, g9⟩ := hG
  have hk : ∀ k, k ≠ 2 → k ≠ 9 → gV M' 1 n c 0 k = gV M 1 n c 0 k := fun k hk hk' => by rw [g5 1 n c 0 k (by omega), sV_ne (by omega)]
  have hk9 : gV M' 1 n c 0 9 = gV M 1 n c 0 9 + 1 := by rw [g5 1 n c 0 9 (by omega), sV_self]
  have hO : OC M M' n c := ⟨fun g n' a b k q => by rw [g5 g n' a b k (by omega), sV_ne (by omega)], g6, g7⟩
  have hfl := FL_one (h.lt hc) hf hO g2.2.2 (Or.inl g3)
  have hcf := BB.conf h.2.2.2 h0 h.2.2.1.1.1 (c0 := c) (s' := s + 1) (by rw [if_pos hq0]; exact Nat.le_refl _) (G' := fun c => gV M' 1 n c 0 9) (fun c' _ => by
    by_cases hcc : c' = c
    · subst hcc; rw [if_pos rfl]; exact hk9
    · rw [if_neg hcc]; exact hO.1 1 n c' 0 9 (fun q => hcc q.2.1))
  have hB : BJ M' n clk K D (r + 1) j s e := by
    unfold BJ
    have hv : vrs M' n = vrs M n := funext hO.vrs
    rw [show (fun k => gT M' 2 n k) = (fun k => gT M 2 n k) from funext (fun k => (g6 2 n k (by omega)).1), hv, hO.rq, hO.ff]
    exact BB.num hcf.1 (by omega) ⟨FL_le _ _, FF_le _ _⟩ (fun _ _ => Nat.le_refl _) (fun _ _ => Nat.le_refl _)
  have hRI : RI zB tB M' := by
    obtain ⟨k1, k2, k3⟩ := h.2.1
    have hu := SC_upd (M := M) (M' := M') (vt0 hn (h.lt hc)) (fun y' n' a' hne => (g6 y' n' a' hne).2)
    have h9 := k3 0 n c (vt0 hn (h.lt hc))
    simp only [tw] at hu
    refine ⟨?_, ?_, fun y' n' a' ht => ?_⟩
    · rcases g9.1 with ⟨e1, e2, e3⟩ | ⟨e1, e2, e3⟩ <;> omega
    · rcases g9.1 with ⟨e1, e2, e3⟩ | ⟨e1, e2, e3⟩ <;> omega
    · by_cases hq : y' = 0 ∧ n' = n ∧ a' = c
      · obtain ⟨rfl, rfl, rfl⟩ := hq
        rcases g9.1 with ⟨e1, e2, e3⟩ | ⟨e1, e2, e3⟩
        · rw [e1]; exact h9
        · exact ⟨by rw [e1]; exact ch_next h9.1, g9.2 (by omega)⟩
      · rw [(g6 y' n' a' hq).2]; exact k3 y' n' a' ht
  refine ⟨⟨hR, hRI, h.2.2.1.client hO (hC.of hO g1 (hk 4 (by decide) (by decide)) (fun q => absurd ((hk 6 (by decide) (by decide)).trans h6) q) g8 (g2.hj hC.2.2.2.2.2.1 hx hw) (fun q => by rw [hk 6 (by decide) (by decide), hk 11 (by decide) (by decide)]; exact hC.2.2.2.2.2.2 q)), hB⟩, MR_oc hO (hk 7 (by decide) (by decide)) (hk 8 (by decide) (by decide)) (hcf.2 c (h.lt hc)), (hk 6 (by decide) (by decide)).trans h6, g4⟩
/-- a CALL has come -/
theorem ST.called {hp' : AH} {M' : MS} (h : ST hp M zB tB n clk cc K D ev r j s e) (hc : c < cc) (hf : f < 12) (h6 : gV M 1 n c 0 6 = 0) (hl : ∃ l', CI M' n c l') (hO1 : Oth (sV M 1 n c 0 10 (gV M 1 n c 0 10 + 1)) M' n c) (hH : HR (sV M 1 n c 0 10 (gV M 1 n c 0 10 + 1)) M' n c f 0 0) (hf6 : gV M' 2 n c f 6 = gV (sV M 1 n c 0 10 (gV M 1 n c 0 10 + 1)) 2 n c f 6) (hf7 : gV M' 2 n c f 7 = gV (sV M 1 n c 0 10 (gV M 1 n c 0 10 + 1)) 2 n c f 7) (hR : Rep hp' M') : ST hp' M' zB tB n clk cc K D ev r j s e ∧ MR M M' n clk := by
  have hC := h.cj hc
  have hO : OC M M' n c := (OC.sv1 M n c 10 _).trans hO1.oc
  have hk : ∀ k, k ≠ 2 → k ≠ 10 → gV M' 1 n c 0 k = gV M 1 n c 0 k := fun k hk hk' => by rw [hO1.1 1 n c 0 k (by omega), sV_ne (by omega)]
  have hT : ∀ y n' a, gT M' y n' a = gT M y n' a ∧ gP M' y n' a = gP M y n' a := fun y n' a => by unfold gT gP; rw [hO1.2.2.2]; exact ⟨rfl, rfl⟩
  have hH2 : HR M M' n c f 0 0 := ⟨fun g => by have := hH.1 g; rw [sV_ne (by omega)] at this; exact this, fun g => by have := hH.2.1 g; rw [sV_ne (by omega)] at this; exact this, fun g hg => by have := hH.2.2 g hg; rw [sV_ne (by omega), sV_ne (by omega)] at this; exact this⟩
  rw [sV_ne (by omega)] at hf6 hf7
  have hFL : FL M' n = FL M n := FL_eq (fun c' f' _ _ => by
    by_cases hcc : c' = c
    · subst hcc
      by_cases e9 : f' = f
      · subst e9; exact ⟨hf6, hf7⟩
      · exact hH2.2.2 f' e9
    · exact ⟨hO.1 2 n c' f' 6 (fun q => hcc q.2.1), hO.1 2 n c' f' 7 (fun q => hcc q.2.1)⟩)
  exact ⟨⟨hR, h.2.1.of hO1.2.1 hO1.2.2.1 (fun y n' a => (hT y n' a).2), h.2.2.1.client hO (hC.of hO hl (hk 4 (by decide) (by decide)) (fun q => absurd ((hk 6 (by decide) (by decide)).trans h6) q) (by rw [(hT 0 n c).1]; exact hC.2.2.2.2.1) (hH2.hj hC.2.2.2.2.2.1 (cOk_nI (k := 0) (by decide)) ⟨by decide, Nat.zero_le _⟩) (fun q => by rw [hk 6 (by decide) (by decide), hk 11 (by decide) (by decide)]; exact hC.2.2.2.2.2.2 q)), hO.bj h.2.2.2 (hk 9 (by decide) (by decide)) (by rw [hFL]; exact Nat.le_refl _)⟩, MR_oc hO (hk 7 (by decide) (by decide)) (hk 8 (by decide) (by decide)) (by rw [hk 9 (by decide) (by decide)]; exact Nat.le_refl _)⟩
end COME
end
section
/-! ===== what comes, II: it is brought ===== -/
section BRING
variable {L : Nat} {xs : Nat → Int32} {d : Nat} {hp : AH} {M : MS} {zB tB n clk cc K : Nat} {D : Nat → Nat} {ev : Bool} {r j s : Nat} {e : Nat → Nat} {c f p : Nat}
theorem gC_row2 {M : MS} {n k p : Nat} (hp : p < (gT M 2 n k).length) : ∃ q, q ∈ gT M 2 n k ∧ (gT M 2 n k)[p]? = some q ∧ ∀ i, gC M 2 n k p i = q i := by
  refine ⟨(gT M 2 n k)[p], List.getElem_mem hp, List.getElem?_eq_getElem hp, fun i => ?_⟩
  show ((gT M 2 n k).getD p (fun _ => 0)) i = _
  rw [List.getD_eq_getElem?_getD, List.getElem?_eq_getElem hp]; rfl
theorem kdR_of {q : Row} {kd : Nat} (h : q 1 = nI kd) (hk : kd = 0 ∨ kd = 1) : kdR q = true := by
  unfold kdR; rw [h]; rcases hk with rfl | rfl <;> decide
theorem kdTh_of {q : Row} {kd : Nat} (h : q 1 = nI kd) (hk : kd = 0 ∨ kd = 1 ∨ kd = 3 ∨ kd = 4 ∨ kd = 5) : kdTh q = true := by
  unfold kdTh; rw [h]; rcases hk with rfl | rfl | rfl | rfl | rfl <;> decide
theorem kdC_of {q : Row} (h : q 1 = nI 6) (h0 : q 0 = nI c) : kdC c q = true := by
  unfold kdC; rw [h, h0, beq_self_eq_true]; rfl
/-- a thing is brought -/
theorem s_bring (h : ST hp M zB tB n clk cc K D ev r 0 0 (fun _ => 0)) (hn : n < 2) (hr0 : r < (gT M 2 n (clk % 9)).length) : WM L xs (d + 5) mX2_bring [.ref (xi 0 n 0 0), .ref (xt 2 n (clk % 9)), .int (nI r)] hp (fun v hp' => v = none ∧ ∃ M', ST hp' M' zB tB n clk cc K D ev (r + 1) 0 0 (fun _ => 0) ∧ MR M M' n clk) := by
  have hk9 : clk % 9 < 9 := Nat.mod_lt _ (by decide)
  obtain ⟨b1, b2, b3, b4, rm, hrm, b5⟩ := h.2.2.1.1
  obtain ⟨q0, hqm, h0, hqc⟩ := gC_row2 hr0
  obtain ⟨⟨c, wc, hc, hq0, -, -, -⟩, ⟨f, hf, hqf, t2, t3⟩, ⟨kd, hkd, hq1⟩, t4, t5⟩ := h.2.2.1.2.2.2 _ hk9 q0 hqm
  have hc4 : c < 4 := by omega
  have hC := h.cj hc
  obtain ⟨l, hI⟩ := hC.1
  refine WM.of [some (.ref _), some (.ref _), some (.int (nI r)), none, none, none, none, none, none, none] (by decide) rfl (Nat.le_of_ble_eq_true rfl) ?_
  refine wp_aload_n (i := 1) dX2_bring_0 rfl rfl ?_
  refine wp_iload_n (i := 2) dX2_bring_1 rfl rfl ?_
  refine wp_iconst (v := 0) dX2_bring_2 rfl ?_
  refine wp_callV (N := mX4_get) dX2_bring_3 l_X2_69 v_X4_get rfl (h.1.oT (vt2 hn hk9)) rfl (by decide) (s_get h.1 (vt2 hn hk9) hr0 (c := 0) (by decide)) (fun v hp9 hq => ?_)
  obtain ⟨rfl, rfl⟩ := hq
  rw [hqc 0, hq0]
  refine wp_istore_n (i := 3) dX2_bring_6 rfl (Nat.le_of_ble_eq_true rfl) ?_
  refine wp_aload_n (i := 1) dX2_bring_7 rfl rfl ?_
  refine wp_iload_n (i := 2) dX2_bring_8 rfl rfl ?_
  refine wp_iconst (v := 2) dX2_bring_9 rfl ?_
  refine wp_callV (N := mX4_get) dX2_bring_10 l_X2_69 v_X4_get rfl (h.1.oT (vt2 hn hk9)) rfl (by decide) (s_get h.1 (vt2 hn hk9) hr0 (c := 2) (by decide)) (fun v hp9 hq => ?_)
  obtain ⟨rfl, rfl⟩ := hq
  rw [hqc 2, hqf]
  refine wp_istore dX2_bring_13 (Nat.le_of_ble_eq_true rfl) ?_
  refine wp_aload_n (i := 0) dX2_bring_15 rfl rfl ?_
  refine wp_iload_n (i := 3) dX2_bring_16 rfl rfl ?_
  refine wp_callV (N := mX2_isClient) dX2_bring_17 l_X2_147 v_X2_isClient rfl (h.1.oo (vs0 hn (k := 0) (by decide)) (by decide)) rfl (by decide) (s_isClient h.1 hn b4 hc b2) (fun v hp9 hq => ?_)
  obtain ⟨rfl, rfl⟩ := hq
  refine wp_if_eq (tgt := 31) dX2_bring_20 (by decide) (fun c20 => ?_) (fun c20 => ?_)
  · skip
    exact absurd c20 (by decide)
  · skip
    refine wp_iload dX2_bring_23 rfl ?_
    refine wp_callS (N := mX5_isFile) (as := [.int (nI f)]) dX2_bring_25 (by first | exact Or.inl l_X2_151 | exact Or.inr n_X2_151 | exact l_X2_151) v_X5_isFile rfl rfl (by decide) (s_isFile hf) (fun v hp9 hq => ?_)
    obtain ⟨rfl, rfl⟩ := hq
    refine wp_if_ne (tgt := 32) dX2_bring_28 (by decide) (fun c28 => ?_) (fun c28 => ?_)
    · skip
      refine wp_aload_n (i := 0) dX2_bring_32 rfl rfl ?_
      refine wr_netR (j := rC n) dX2_bring_33 h.1 f_X2_23 hn (Or.inl ⟨rfl, rfl⟩) ?_
      refine wp_iload_n (i := 3) dX2_bring_36 rfl rfl ?_
      refine wr_aC (c := c) dX2_bring_37 h.1 rfl hn hc4 ?_
      refine wp_astore dX2_bring_38 (Nat.le_of_ble_eq_true rfl) ?_
      refine wp_aload dX2_bring_40 rfl ?_
      refine wr_get (g := 1) (n := n) (a := c) (b := 0) (k := 6) dX2_bring_42 h.1 f_X2_82 (vs1 hn hc4 (by decide)) (by decide) (by decide) ?_
      refine wp_if_ne (tgt := 59) dX2_bring_45 (by decide) (fun c45 => ?_) (fun c45 => ?_)
      · skip
        refine wp_aload dX2_bring_59 rfl ?_
        refine wp_dup dX2_bring_61 rfl ?_
        refine wr_get (g := 1) (n := n) (a := c) (b := 0) (k := 11) dX2_bring_62 h.1 f_X2_154 (vs1 hn hc4 (by decide)) (by decide) (by decide) ?_
        refine wp_iconst (v := 1) dX2_bring_65 rfl ?_
        refine wp_iadd dX2_bring_66 ?_
        refine wr_put (g := 1) (n := n) (a := c) (b := 0) (k := 11) dX2_bring_67 h.1 (p_X2_154 rfl) (vs1 hn hc4 (by decide)) (by decide) (by decide) (okI rfl) (fun hp2 hR1 => ?_)
        refine wp_ret (v := none) dX2_bring_70 rfl ?_
        have hev : ev = true := by
          cases ev with
          | true => rfl
          | false => exact absurd (hC.2.2.2.2.2.2 rfl).1 c45
        obtain ⟨hS1, hM1⟩ := h.lost hc hev hR1
        exact ⟨trivial, rfl, _, hS1.next h0 (Nat.zero_le _), hM1⟩
      · skip
        refine wp_aload_n (i := 1) dX2_bring_48 rfl rfl ?_
        refine wp_iload_n (i := 2) dX2_bring_49 rfl rfl ?_
        refine wp_bipush (v := nI 7) dX2_bring_50 (by decide) ?_
        refine wp_callV (N := mX4_get) dX2_bring_52 l_X2_69 v_X4_get rfl (h.1.oT (vt2 hn hk9)) rfl (by decide) (s_get h.1 (vt2 hn hk9) hr0 (c := 7) (by decide)) (fun v hp9 hq => ?_)
        obtain ⟨rfl, rfl⟩ := hq
        rw [hqc 7]
        refine wp_iconst (v := 1) dX2_bring_55 rfl ?_
        refine wp_icmp_ne (tgt := 71) dX2_bring_56 (by decide) (fun c56 => ?_) (fun c56 => ?_)
        · skip
          refine wp_aload_n (i := 1) dX2_bring_71 rfl rfl ?_
          refine wp_iload_n (i := 2) dX2_bring_72 rfl rfl ?_
          refine wp_iconst (v := 1) dX2_bring_73 rfl ?_
          refine wp_callV (N := mX4_get) dX2_bring_74 l_X2_69 v_X4_get rfl (h.1.oT (vt2 hn hk9)) rfl (by decide) (s_get h.1 (vt2 hn hk9) hr0 (c := 1) (by decide)) (fun v hp9 hq => ?_)
          obtain ⟨rfl, rfl⟩ := hq
          rw [hqc 1, hq1]
          refine wp_istore dX2_bring_77 (Nat.le_of_ble_eq_true rfl) ?_
          refine wp_aload_n (i := 1) dX2_bring_79 rfl rfl ?_
          refine wp_iload_n (i := 2) dX2_bring_80 rfl rfl ?_
          refine wp_iconst (v := 4) dX2_bring_81 rfl ?_
          refine wp_callV (N := mX4_get) dX2_bring_82 l_X2_69 v_X4_get rfl (h.1.oT (vt2 hn hk9)) rfl (by decide) (s_get h.1 (vt2 hn hk9) hr0 (c := 4) (by decide)) (fun v hp9 hq => ?_)
          obtain ⟨rfl, rfl⟩ := hq
          rw [hqc 4]
          refine wp_istore dX2_bring_85 (Nat.le_of_ble_eq_true rfl) ?_
          refine wp_aload_n (i := 1) dX2_bring_87 rfl rfl ?_
          refine wp_iload_n (i := 2) dX2_bring_88 rfl rfl ?_
          refine wp_iconst (v := 5) dX2_bring_89 rfl ?_
          refine wp_callV (N := mX4_get) dX2_bring_90 l_X2_69 v_X4_get rfl (h.1.oT (vt2 hn hk9)) rfl (by decide) (s_get h.1 (vt2 hn hk9) hr0 (c := 5) (by decide)) (fun v hp9 hq => ?_)
          obtain ⟨rfl, rfl⟩ := hq
          rw [hqc 5]
          refine wp_istore dX2_bring_93 (Nat.le_of_ble_eq_true rfl) ?_
          refine wp_aload_n (i := 1) dX2_bring_95 rfl rfl ?_
          refine wp_iload_n (i := 2) dX2_bring_96 rfl rfl ?_
          refine wp_bipush (v := nI 6) dX2_bring_97 (by decide) ?_
          refine wp_callV (N := mX4_get) dX2_bring_99 l_X2_69 v_X4_get rfl (h.1.oT (vt2 hn hk9)) rfl (by decide) (s_get h.1 (vt2 hn hk9) hr0 (c := 6) (by decide)) (fun v hp9 hq => ?_)
          obtain ⟨rfl, rfl⟩ := hq
          rw [hqc 6]
          refine wp_istore dX2_bring_102 (Nat.le_of_ble_eq_true rfl) ?_
          refine wp_iload dX2_bring_104 rfl ?_
          rcases (show kd = 0 ∨ kd = 1 ∨ kd = 2 ∨ kd = 3 ∨ kd = 4 ∨ kd = 5 ∨ kd = 6 by omega) with rfl | rfl | rfl | rfl | rfl | rfl | rfl
          · skip
            refine wp_tabIn dX2_bring_106 (by decide) (by decide) (off := 42) (tgt := 148) (by decide) (by decide) ?_
            refine wp_aload_n (i := 0) dX2_bring_148 rfl rfl ?_
            refine wr_netR (j := rS n) dX2_bring_149 h.1 f_X2_29 hn (Or.inr (Or.inl ⟨rfl, rfl⟩)) ?_
            refine wp_iload dX2_bring_152 rfl ?_
            refine wr_aS (f := f) dX2_bring_154 h.1 rfl hn hf ?_
            refine wp_iload_n (i := 3) dX2_bring_155 rfl rfl ?_
            refine wp_iload dX2_bring_156 rfl ?_
            refine wp_iload dX2_bring_158 rfl ?_
            refine wp_iload dX2_bring_160 rfl ?_
            have hrows := rows_RQ M n hf
            have hBr := BB.reqs (BB.req h.2.2.2 h0 (kdR_of hq1 (by decide)))
            refine wp_callV (N := mX3_addRequest) (as := [.int (nI c), .int (nI 0), .int (q0 4), .int (q0 5)]) dX2_bring_162 l_X2_157 v_X3_addRequest rfl (h.1.oo (vs4 hn hf (k := 0) (by decide)) (by decide)) rfl (by decide) (s_addRequest h.1 hn hf (by omega) (nI c) (nI 0) (q0 4) (q0 5)) (fun v hp8 hq => ?_)
            obtain ⟨rfl, q, y0, y1, y2, y3, hR8⟩ := hq
            obtain ⟨hS8, hM8⟩ := h.req hn hf h0 (kdR_of hq1 (by decide)) (q := q) ⟨⟨c, hc, y0⟩, by rw [y1]; decide, by rw [y2]; exact t4⟩ hR8
            refine wp_if_ne (tgt := 284) dX2_bring_165 (by decide) (fun c165 => ?_) (fun c165 => ?_)
            · skip
              refine wp_ret (v := none) dX2_bring_284 rfl ?_
              exact ⟨trivial, rfl, _, hS8, hM8⟩
            · skip
              refine wp_aload_n (i := 0) dX2_bring_168 rfl rfl ?_
              refine wp_iload dX2_bring_169 rfl ?_
              refine wp_callV (N := mX2_lookAtFirst) (as := [.int (nI f)]) dX2_bring_171 l_X2_141 v_X2_lookAtFirst rfl (hS8.1.oo (vs0 hn (k := 0) (by decide)) (by decide)) rfl (by decide) (s_lookAtFirst hS8 hn hf) (fun v hp7 hq => ?_)
              obtain ⟨rfl, M7, hS7, hM7⟩ := hq
              have hT7 := hM8.trans hM7
              refine wp_goto (tgt := 284) dX2_bring_174 (by decide) ?_
              refine wp_ret (v := none) dX2_bring_284 rfl ?_
              exact ⟨trivial, rfl, _, hS7, hT7⟩
          · skip
            refine wp_tabIn dX2_bring_106 (by decide) (by decide) (off := 42) (tgt := 148) (by decide) (by decide) ?_
            refine wp_aload_n (i := 0) dX2_bring_148 rfl rfl ?_
            refine wr_netR (j := rS n) dX2_bring_149 h.1 f_X2_29 hn (Or.inr (Or.inl ⟨rfl, rfl⟩)) ?_
            refine wp_iload dX2_bring_152 rfl ?_
            refine wr_aS (f := f) dX2_bring_154 h.1 rfl hn hf ?_
            refine wp_iload_n (i := 3) dX2_bring_155 rfl rfl ?_
            refine wp_iload dX2_bring_156 rfl ?_
            refine wp_iload dX2_bring_158 rfl ?_
            refine wp_iload dX2_bring_160 rfl ?_
            have hrows := rows_RQ M n hf
            have hBr := BB.reqs (BB.req h.2.2.2 h0 (kdR_of hq1 (by decide)))
            refine wp_callV (N := mX3_addRequest) (as := [.int (nI c), .int (nI 1), .int (q0 4), .int (q0 5)]) dX2_bring_162 l_X2_157 v_X3_addRequest rfl (h.1.oo (vs4 hn hf (k := 0) (by decide)) (by decide)) rfl (by decide) (s_addRequest h.1 hn hf (by omega) (nI c) (nI 1) (q0 4) (q0 5)) (fun v hp8 hq => ?_)
            obtain ⟨rfl, q, y0, y1, y2, y3, hR8⟩ := hq
            obtain ⟨hS8, hM8⟩ := h.req hn hf h0 (kdR_of hq1 (by decide)) (q := q) ⟨⟨c, hc, y0⟩, by rw [y1]; decide, by rw [y2]; exact t4⟩ hR8
            refine wp_if_ne (tgt := 284) dX2_bring_165 (by decide) (fun c165 => ?_) (fun c165 => ?_)
            · skip
              refine wp_ret (v := none) dX2_bring_284 rfl ?_
              exact ⟨trivial, rfl, _, hS8, hM8⟩
            · skip
              refine wp_aload_n (i := 0) dX2_bring_168 rfl rfl ?_
              refine wp_iload dX2_bring_169 rfl ?_
              refine wp_callV (N := mX2_lookAtFirst) (as := [.int (nI f)]) dX2_bring_171 l_X2_141 v_X2_lookAtFirst rfl (hS8.1.oo (vs0 hn (k := 0) (by decide)) (by decide)) rfl (by decide) (s_lookAtFirst hS8 hn hf) (fun v hp7 hq => ?_)
              obtain ⟨rfl, M7, hS7, hM7⟩ := hq
              have hT7 := hM8.trans hM7
              refine wp_goto (tgt := 284) dX2_bring_174 (by decide) ?_
              refine wp_ret (v := none) dX2_bring_284 rfl ?_
              exact ⟨trivial, rfl, _, hS7, hT7⟩
          · skip
            refine wp_tabIn dX2_bring_106 (by decide) (by decide) (off := 71) (tgt := 177) (by decide) (by decide) ?_
            refine wp_aload_n (i := 0) dX2_bring_177 rfl rfl ?_
            refine wr_netR (j := rS n) dX2_bring_178 h.1 f_X2_29 hn (Or.inr (Or.inl ⟨rfl, rfl⟩)) ?_
            refine wp_iload dX2_bring_181 rfl ?_
            refine wr_aS (f := f) dX2_bring_183 h.1 rfl hn hf ?_
            refine wr_sheR (j := xi 5 n f 0) dX2_bring_184 h.1 f_X2_161 hn hf (Or.inl ⟨rfl, rfl⟩) ?_
            refine wp_iload_n (i := 3) dX2_bring_187 rfl rfl ?_
            refine wp_iconst (v := (-1)) dX2_bring_188 rfl ?_
            refine wr_untP (k := c) dX2_bring_189 h.1 rfl (vs5 hn hf hc4) (fun hp4 hR3 => ?_)
            refine wp_aload_n (i := 0) dX2_bring_190 rfl rfl ?_
            refine wp_iload dX2_bring_191 rfl ?_
            obtain ⟨hSl, hMl⟩ := h.lease hR3
            have hSn := hSl.next (s' := 0) (q0 := q0) h0 (Nat.zero_le _)
            refine wp_callV (N := mX2_lookAtFirst) (as := [.int (nI f)]) dX2_bring_193 l_X2_141 v_X2_lookAtFirst rfl (hR3.oo (vs0 hn (k := 0) (by decide)) (by decide)) rfl (by decide) (s_lookAtFirst hSn hn hf) (fun v hp7 hq => ?_)
            obtain ⟨rfl, M7, hS7, hM7⟩ := hq
            have hT7 := hMl.trans hM7
            refine wp_goto (tgt := 284) dX2_bring_196 (by decide) ?_
            refine wp_ret (v := none) dX2_bring_284 rfl ?_
            exact ⟨trivial, rfl, _, hS7, hT7⟩
          · skip
            refine wp_tabIn dX2_bring_106 (by decide) (by decide) (off := 93) (tgt := 199) (by decide) (by decide) ?_
            refine wp_aload dX2_bring_199 rfl ?_
            refine wp_iload dX2_bring_201 rfl ?_
            refine wp_iload dX2_bring_203 rfl ?_
            refine wp_iload dX2_bring_205 rfl ?_
            refine wp_iload dX2_bring_207 rfl ?_
            refine wp_aload_n (i := 0) dX2_bring_209 rfl rfl ?_
            refine wr_get (g := 0) (n := n) (a := 0) (b := 0) (k := 3) dX2_bring_210 h.1 f_X2_18 (vs0 hn (by decide)) (by decide) (by decide) ?_
            rw [b5]
            refine wp_callV (N := mX0_takeGiven) (as := [.int (nI f), .int (q0 4), .int (q0 5), .int (q0 6), .int (nI rm)]) dX2_bring_213 l_X2_165 v_X0_takeGiven rfl (h.1.oo (vs1 hn hc4 (k := 2) (by decide)) (by decide)) rfl (by decide) (s_takeGiven h.1 hn hc4 hI hf (q0 4) (q0 5) (q0 6) hrm) (fun v hp8 hq => ?_)
            obtain ⟨rfl, M8, hR8, hG8⟩ := hq
            obtain ⟨hS8, hM8⟩ := (h.next (s' := 0 + 1) h0 (by rw [if_pos (kdTh_of hq1 (by decide))]; exact Nat.le_refl _)).given hc hf t4 ⟨t2, t3⟩ c45 hG8 hR8
            refine wp_goto (tgt := 284) dX2_bring_216 (by decide) ?_
            refine wp_ret (v := none) dX2_bring_284 rfl ?_
            exact ⟨trivial, rfl, _, hS8, hM8⟩
          · skip
            refine wp_tabIn dX2_bring_106 (by decide) (by decide) (off := 113) (tgt := 219) (by decide) (by decide) ?_
            refine wp_aload dX2_bring_219 rfl ?_
            refine wr_cliR (j := rF n c) dX2_bring_221 h.1 f_X2_86 hn hc4 (Or.inl ⟨rfl, rfl⟩) ?_
            refine wp_iload dX2_bring_224 rfl ?_
            refine wr_aF (f := f) dX2_bring_226 h.1 rfl hn hc4 hf ?_
            refine wp_iload dX2_bring_227 rfl ?_
            refine wp_iload dX2_bring_229 rfl ?_
            refine wp_iload dX2_bring_231 rfl ?_
            refine wp_callV (N := mX1_beStored) (as := [.int (q0 4), .int (q0 5), .int (q0 6)]) dX2_bring_233 l_X2_169 v_X1_beStored rfl (h.1.oo (vs2 hn hc4 hf (k := 0) (by decide)) (by decide)) rfl (by decide) (s_beStored h.1 hn hc4 hf (q0 4) (q0 5) (q0 6)) (fun v hp8 hq => ?_)
            obtain ⟨rfl, hR8⟩ := hq
            obtain ⟨hS8, hM8⟩ := (h.next (s' := 0 + 1) h0 (by rw [if_pos (kdTh_of hq1 (by decide))]; exact Nat.le_refl _)).kept hc hf ⟨t2, t3⟩ c45 hR8
            refine wp_goto (tgt := 284) dX2_bring_236 (by decide) ?_
            refine wp_ret (v := none) dX2_bring_284 rfl ?_
            exact ⟨trivial, rfl, _, hS8, hM8⟩
          · skip
            refine wp_tabIn dX2_bring_106 (by decide) (by decide) (off := 133) (tgt := 239) (by decide) (by decide) ?_
            refine wp_aload dX2_bring_239 rfl ?_
            refine wp_iload dX2_bring_241 rfl ?_
            refine wp_iload dX2_bring_243 rfl ?_
            refine wp_iload dX2_bring_245 rfl ?_
            refine wp_callV (N := mX0_takeClash) (as := [.int (nI f), .int (q0 4), .int (q0 5)]) dX2_bring_247 l_X2_172 v_X0_takeClash rfl (h.1.oo (vs1 hn hc4 (k := 2) (by decide)) (by decide)) rfl (by decide) (s_takeClash h.1 hn hc4 hI hf (q0 4) (q0 5) hC.2.2.2.2.1) (fun v hp8 hq => ?_)
            obtain ⟨M8, hR8, hG8, hv9⟩ := hq
            obtain ⟨hS8, hM8, h68, h78⟩ := h.clash hn hc hf t4 ⟨t2, t3⟩ c45 h0 (kdTh_of hq1 (by decide)) hG8 hR8
            obtain ⟨vv, rfl⟩ : ∃ vv, v = some (.int vv) := by rcases hv9 with h9 | h9 <;> exact ⟨_, h9⟩
            refine wp_if_eq (tgt := 284) dX2_bring_250 (by decide) (fun c250 => ?_) (fun c250 => ?_)
            · skip
              refine wp_ret (v := none) dX2_bring_284 rfl ?_
              exact ⟨trivial, rfl, _, hS8, hM8⟩
            · skip
              refine wp_aload_n (i := 0) dX2_bring_253 rfl rfl ?_
              refine wp_iload_n (i := 3) dX2_bring_254 rfl rfl ?_
              refine wp_iload dX2_bring_255 rfl ?_
              refine wp_callV (N := mX2_sendStore) (as := [.int (nI c), .int (nI f)]) dX2_bring_257 l_X2_127 v_X2_sendStore rfl (hS8.1.oo (vs0 hn (k := 0) (by decide)) (by decide)) rfl (by decide) (s_sendStore hS8 hn (Nat.zero_le _) hc hf h68 h78) (fun v hp7 hq => ?_)
              obtain ⟨rfl, k, q, hk, hS7⟩ := hq
              have hT7 := (hM8.trans (MR_sv2 M8 n c f 7 clk 1)).trans (MR_snd _ hk q)
              refine wp_goto (tgt := 284) dX2_bring_260 (by decide) ?_
              refine wp_ret (v := none) dX2_bring_284 rfl ?_
              exact ⟨trivial, rfl, _, hS7, hT7⟩
          · skip
            refine wp_tabIn dX2_bring_106 (by decide) (by decide) (off := 157) (tgt := 263) (by decide) (by decide) ?_
            refine wp_aload dX2_bring_263 rfl ?_
            refine wp_iload dX2_bring_265 rfl ?_
            refine wp_callV (N := mX0_takeCall) (as := [.int (nI f)]) dX2_bring_267 l_X2_176 v_X0_takeCall rfl (h.1.oo (vs1 hn hc4 (k := 2) (by decide)) (by decide)) rfl (by decide) (s_takeCall h.1 hn hc4 hI hf) (fun v hp8 hq => ?_)
            obtain ⟨rfl, M8, hR8, y1, y2, y3, y4, y5⟩ := hq
            obtain ⟨hS8, hM8⟩ := h.called hc hf c45 y1 y2 y3 y4 y5 hR8
            refine wp_aload_n (i := 0) dX2_bring_270 rfl rfl ?_
            refine wp_iconst (v := 2) dX2_bring_271 rfl ?_
            refine wp_iload_n (i := 3) dX2_bring_272 rfl rfl ?_
            refine wp_iload dX2_bring_273 rfl ?_
            refine wp_iconst (v := 0) dX2_bring_275 rfl ?_
            refine wp_iconst (v := 0) dX2_bring_276 rfl ?_
            refine wp_iconst (v := 0) dX2_bring_277 rfl ?_
            refine wp_callV (N := mX2_send) (as := [.int (nI 2), .int (nI c), .int (nI f), .int 0, .int 0, .int 0]) dX2_bring_278 l_X2_101 v_X2_send rfl (hS8.1.oo (vs0 hn (k := 0) (by decide)) (by decide)) rfl (by decide) (s_sendA hS8 hn (Nat.zero_le _) hc hf 0 (q0 := q0) (by rw [hM8.2]; exact h0) (kdC_of hq1 hq0)) (fun v hp7 hq => ?_)
            obtain ⟨rfl, k, q, hk, hS7⟩ := hq
            have hT7 := hM8.trans (MR_snd _ hk q)
            refine wp_goto (tgt := 284) dX2_bring_281 (by decide) ?_
            refine wp_ret (v := none) dX2_bring_284 rfl ?_
            exact ⟨trivial, rfl, _, hS7, hT7⟩
        · skip
          refine wp_aload dX2_bring_59 rfl ?_
          refine wp_dup dX2_bring_61 rfl ?_
          refine wr_get (g := 1) (n := n) (a := c) (b := 0) (k := 11) dX2_bring_62 h.1 f_X2_154 (vs1 hn hc4 (by decide)) (by decide) (by decide) ?_
          refine wp_iconst (v := 1) dX2_bring_65 rfl ?_
          refine wp_iadd dX2_bring_66 ?_
          refine wr_put (g := 1) (n := n) (a := c) (b := 0) (k := 11) dX2_bring_67 h.1 (p_X2_154 rfl) (vs1 hn hc4 (by decide)) (by decide) (by decide) (okI rfl) (fun hp6 hR5 => ?_)
          refine wp_ret (v := none) dX2_bring_70 rfl ?_
          have hev : ev = true := by
            cases ev with
            | true => rfl
            | false => exact absurd c56 (t5 rfl)
          obtain ⟨hS1, hM1⟩ := h.lost hc hev hR5
          exact ⟨trivial, rfl, _, hS1.next h0 (Nat.zero_le _), hM1⟩
    · skip
      exact absurd c28 (by decide)
end BRING
end
section
/-! ===== a tick ===== -/
/-- a table is emptied -/
theorem Rep.wipe {hp : AH} {M : MS} (h : Rep hp M) {y n a : Nat} (ht : vt y n a) : Rep (hset hp (xt y n a) 2 (.int 0)) (sW M (mz M) (mt M) y n a [] (gP M y n a)) := by
  have hT := h.T ht
  have hne := hT.apart (xt_le ht).2
  have hz := h.2.1
  have htt := h.2.2.1
  obtain ⟨a1, a2, a3, a4, a5, a6, a7, a8, a9, a10, a11⟩ := id hT
  have e : aix (hset hp (xt y n a) 2 (.int 0)) (xt y n a) = aix hp (xt y n a) := aix_ne (fun q => by have := q.2; omega)
  have hh := Rep.tab (hp' := hset hp (xt y n a) 2 (.int 0)) h ht (r := []) (cap := gP M y n a) (Nat.le_refl _) (fun i _ h2 _ => ⟨rfl, fun k => hv_ne (fun q => h2 q.1)⟩) ?_ (Or.inl e)
  · rw [← hz, ← htt]; exact hh
  · unfold TabAt
    rw [e]
    refine ⟨a1, ?_, ?_, ?_, a5, a6, a7, Nat.zero_le _, a9, fun j hj => ?_, fun k q hq c hc => ?_⟩
    · rw [hv_ne (fun q => by have := q.2; omega)]; exact a2
    · rw [hv_set, if_pos ⟨rfl, rfl⟩]; rfl
    · rw [hv_ne (fun q => by have := q.2; omega)]; exact a4
    · rw [hv_ne (fun q => hne q.1)]; exact a10 j hj
    · rw [List.getElem?_nil] at hq; exact absurd hq (by simp)
section TICK
variable {L : Nat} {xs : Nat → Int32} {d : Nat} {hp : AH} {M : MS} {zB tB n clk cc K : Nat} {D : Nat → Nat} {ev : Bool} {r j s : Nat} {e : Nat → Nat} {c f p : Nat}
/-- what has come is gone -/
theorem ST.gone {hp' : AH} {w : Nat} (h : ST hp M zB tB n clk cc K D ev w 0 0 (fun _ => 0)) (hn : n < 2) (hw : (gT M 2 n (clk % 9)).length = w) (hR : Rep hp' (sW M (mz M) (mt M) 2 n (clk % 9) [] (gP M 2 n (clk % 9)))) : ST hp' (sW M (mz M) (mt M) 2 n (clk % 9) [] (gP M 2 n (clk % 9))) zB tB n clk cc K D ev 0 0 0 (fun _ => 0) ∧ FR M (sW M (mz M) (mt M) 2 n (clk % 9) [] (gP M 2 n (clk % 9))) n ∧ gT (sW M (mz M) (mt M) 2 n (clk % 9) [] (gP M 2 n (clk % 9))) 2 n (clk % 9) = [] := by
  have hk9 : clk % 9 < 9 := Nat.mod_lt _ (by decide)
  have hT1 : ∀ y a, y ≠ 2 → gT (sW M (mz M) (mt M) 2 n (clk % 9) [] (gP M 2 n (clk % 9))) y n a = gT M y n a := fun y a hy => gT_sWn (fun q => hy q.1)
  have hT2 : ∀ k, k ≠ clk % 9 → gT (sW M (mz M) (mt M) 2 n (clk % 9) [] (gP M 2 n (clk % 9))) 2 n k = gT M 2 n k := fun k hk => gT_sWn (fun q => hk q.2.2)
  obtain ⟨hR0, hI, ⟨n1, n2, n3, n4⟩, hB⟩ := h
  refine ⟨⟨hR, hI.gr (vt2 hn hk9) (Or.inl ⟨rfl, rfl, rfl⟩) (fun q => absurd q (Nat.lt_irrefl _)), ⟨n1, fun c hc => ?_, fun f hf => ?_, fun k hk q hq => ?_⟩, ?_⟩, ⟨G0.sw _ _ _ _ _ _ _ _, FC.rfl' _ _, FV.rfl' _ _⟩, gT_sW _ _ _ _ _ _ _ _⟩
  · obtain ⟨⟨l, a1⟩, a2, a3, a4, a5, a6, a7⟩ := n2 c hc
    exact ⟨⟨l, a1.of rfl (fun _ => rfl) (fun _ => ⟨rfl, rfl⟩)⟩, a2, a3, a4, by rw [hT1 0 c (by decide)]; exact a5, a6, a7⟩
  · obtain ⟨a1, a2, a3⟩ := n3 f hf
    exact ⟨a1, a2, by rw [hT1 1 f (by decide)]; exact a3⟩
  · by_cases hkk : k = clk % 9
    · subst hkk; rw [gT_sW] at hq; exact absurd hq List.not_mem_nil
    · rw [hT2 k hkk] at hq; exact n4 k hk q hq
  · subst hw
    unfold BJ at hB ⊢
    rw [show RQ (sW M (mz M) (mt M) 2 n (clk % 9) [] (gP M 2 n (clk % 9))) n = RQ M n from RQ_eq (fun f _ => hT1 1 f (by decide))]
    exact BB.gone hB (gT_sW _ _ _ _ _ _ _ _) (fun k _ hk => hT2 k hk) (fun c hc => by have := (n2 c hc).2.2.1; omega)
/-- the clock goes on -/
theorem ST.tick {hp' : AH} (h : ST hp M zB tB n clk cc K D ev 0 0 0 (fun _ => 0)) (h0 : gT M 2 n (clk % 9) = []) (hb : clk + 1 < 1000) (hR : Rep hp' (sV M 0 n 0 0 0 (nI (clk + 1)))) : ST hp' (sV M 0 n 0 0 0 (nI (clk + 1))) zB tB n (clk + 1) cc K D ev 0 0 0 (fun _ => 0) ∧ FR M (sV M 0 n 0 0 0 (nI (clk + 1))) n := by
  have hx : ∀ g n' a b k', ¬ (g = 0 ∧ k' = 0) → gV (sV M 0 n 0 0 0 (nI (clk + 1))) g n' a b k' = gV M g n' a b k' := fun g n' a b k' q => sV_ne (fun p => q ⟨p.1, p.2.2.2.2⟩)
  obtain ⟨hR0, hI, ⟨⟨b1, b2, b3, b4, rm, b6, b5⟩, n2, n3, n4⟩, hB⟩ := h
  have hv : vrs (sV M 0 n 0 0 0 (nI (clk + 1))) n = vrs M n := funext (fun f => by show vN _ = vN _; rw [hx _ _ _ _ _ (by omega)])
  have hw : ∀ k, k < 9 → ∀ q, q ∈ gT M 2 n k → ∃ c w, c < cc ∧ q 0 = nI c ∧ q 3 = nI w ∧ w % 9 = k ∧ clk + 1 ≤ w ∧ w ≤ clk + D c := fun k hk q hq => by
    obtain ⟨⟨c, w, t1, t2, t3, t4, t5, t6⟩, -⟩ := n4 k hk q hq
    refine ⟨c, w, t1, t2, t3, t4, ?_, t6⟩
    rcases Nat.lt_or_ge clk w with q9 | q9
    · exact q9
    · have e9 : w = clk := by omega
      rw [e9] at t4
      rw [← t4, h0] at hq
      exact absurd hq List.not_mem_nil
  have hz : ∀ c, c < 4 → ∀ q, q ∈ gT M 2 n ((clk + 1 + D c) % 9) → kdC c q = false ∧ kdA c q = false := fun c hc q hq => by
    obtain ⟨c', w, t1, t2, t3, t4, t5, t6⟩ := hw _ (Nat.mod_lt _ (by decide)) q hq
    have hD := (n2 c hc).2.2.1
    have hne : ¬ q 0 = nI c := fun e9 => by
      rw [t2] at e9
      have e8 := (nI_eq (by omega) (by omega)).mp e9
      subst e8
      omega
    refine ⟨?_, ?_⟩
    · rcases h9 : kdC c q with - | -
      · rfl
      · exact absurd (kdC_th h9).2.2.2 hne
    · rcases h9 : kdA c q with - | -
      · rfl
      · exact absurd (kdA_th h9).2.2.2 hne
  refine ⟨⟨hR, hI.of rfl rfl (fun _ _ _ => rfl), ⟨⟨hb, b2, sV_self _ _ _ _ _ _ _, by rw [hx _ _ _ _ _ (by omega)]; exact b4, rm, b6, by rw [hx _ _ _ _ _ (by omega)]; exact b5⟩, fun c hc => ?_, fun f hf => ?_, fun k hk q hq => ?_⟩, ?_⟩, ⟨G0.sv _ _ _ _ _ _ _, fun c _ => ⟨hx _ _ _ _ _ (by omega), hx _ _ _ _ _ (by omega), by rw [hx _ _ _ _ _ (by omega)]; exact Nat.le_refl _⟩, fun f _ => ⟨by rw [hv]; exact Nat.le_refl _, fun _ => hx _ _ _ _ _ (by omega)⟩⟩⟩
  · obtain ⟨⟨l, a1⟩, a2, a3, a4, a5, a6, a7⟩ := n2 c hc
    refine ⟨⟨l, a1.of (hx _ _ _ _ _ (by omega)) (fun _ => hx _ _ _ _ _ (by omega)) (fun _ => ⟨hx _ _ _ _ _ (by omega), hx _ _ _ _ _ (by omega)⟩)⟩, by rw [hx _ _ _ _ _ (by omega)]; exact a2, a3, ?_, a5, fun f hf => ?_, ?_⟩
    · rw [hx _ _ _ _ _ (by omega)]; intro q f hf; rw [hx _ _ _ _ _ (by omega), hx _ _ _ _ _ (by omega)]; exact a4 q f hf
    · unfold HJ; rw [hv, hx _ _ _ _ _ (by omega), hx _ _ _ _ _ (by omega)]; exact a6 f hf
    · rw [hx _ _ _ _ _ (by omega), hx _ _ _ _ _ (by omega)]; exact a7
  · unfold SJ; rw [hv, hx _ _ _ _ _ (by omega), hx _ _ _ _ _ (by omega)]; exact n3 f hf
  · rw [hv]
    have hq' : q ∈ gT M 2 n k := hq
    obtain ⟨c, w, t1, t2, t3, t4, t5, t6⟩ := hw k hk q hq'
    exact ⟨⟨c, w, t1, t2, t3, t4, t5, by omega⟩, (n4 k hk q hq').2⟩
  · unfold BJ at hB ⊢
    rw [show RQ (sV M 0 n 0 0 0 (nI (clk + 1))) n = RQ M n from rfl, FL_eq (M := M) (M' := sV M 0 n 0 0 0 (nI (clk + 1))) (fun c' f' _ _ => ⟨hx _ _ _ _ _ (by omega), hx _ _ _ _ _ (by omega)⟩), FF_eq (M := M) (M' := sV M 0 n 0 0 0 (nI (clk + 1))) (fun f' _ => hx _ _ _ _ _ (by omega)), hv, show (fun c => gV (sV M 0 n 0 0 0 (nI (clk + 1))) 1 n c 0 9) = (fun c => gV M 1 n c 0 9) from funext (fun c => hx _ _ _ _ _ (by omega))]
    exact BB.tick hB h0 hz (fun q hq => (n4 _ (Nat.mod_lt _ (by decide)) q hq).cover b2)
theorem w_tick_69 (hn : n < 2) {M0 : MS} (la : Nat) (lb : Int32) : ∀ (m c : Nat), cc - c = m → c ≤ cc → ∀ (hp : AH) (M : MS), ST hp M zB tB n clk cc K D ev 0 0 0 (fun _ => 0) → FR M0 M n → gT M 2 n (clk % 9) = [] → WP L xs (d + 6) mX2_passTick 69 [some (.ref (xi 0 n 0 0)), some (.ref la), some (.int lb), some (.int (nI c))] [] hp (fun v hp' => retOk mX2_passTick.2.2.2 v ∧ v = none ∧ ∃ M', ST hp' M' zB tB n clk cc K D ev 0 0 0 (fun _ => 0) ∧ FR M0 M' n ∧ gT M' 2 n (clk % 9) = []) := by
  intro m
  induction m using Nat.strongRecOn with
  | ind m ih =>
    intro c hm hc0 hp M h hM hE
    obtain ⟨b1, b2, b3, b4, b5⟩ := h.2.2.1.1
    subst hm
    refine wp_iload_n (i := 3) dX2_passTick_69 rfl rfl ?_
    refine wp_aload_n (i := 0) dX2_passTick_70 rfl rfl ?_
    refine wr_get (g := 0) (n := n) (a := 0) (b := 0) (k := 4) dX2_passTick_71 h.1 f_X2_44 (vs0 hn (by decide)) (by decide) (by decide) ?_
    refine wp_icmp_ge (tgt := 93) dX2_passTick_74 (by decide) (fun c74 => ?_) (fun c74 => ?_)
    · skip
      refine wp_ret (v := none) dX2_passTick_93 rfl ?_
      exact ⟨trivial, rfl, _, h, hM, hE⟩
    · skip
      refine wp_aload_n (i := 0) dX2_passTick_77 rfl rfl ?_
      refine wp_iload_n (i := 3) dX2_passTick_78 rfl rfl ?_
      refine wp_aload_n (i := 0) dX2_passTick_79 rfl rfl ?_
      refine wr_get (g := 0) (n := n) (a := 0) (b := 0) (k := 2) dX2_passTick_80 h.1 f_X2_15 (vs0 hn (by decide)) (by decide) (by decide) ?_
      rw [b4] at c74
      have hcc : c < cc := (nI_ltI (by omega) (by omega)).mp c74
      refine wp_callV (N := mX2_sendDirty) (as := [.int (nI c), .int _]) dX2_passTick_83 l_X2_144 v_X2_sendDirty rfl (h.1.oo (vs0 hn (k := 0) (by decide)) (by decide)) rfl (by decide) (s_sendDirty h hn hcc _) (fun v hp7 hq => ?_)
      obtain ⟨M7, hS7, hM7, mm, rfl, -⟩ := hq
      refine wp_pop dX2_passTick_86 rfl ?_
      refine wp_iinc (v := nI (c + 1)) dX2_passTick_87 rfl (nI_1 _) ?_
      refine wp_goto (tgt := 69) dX2_passTick_90 (by decide) ?_
      exact ih (cc - (c + 1)) (by omega) (c + 1) rfl (by omega) _ _ hS7 (hM.trans hM7.1) (by rw [hM7.2]; exact hE)
theorem w_tick_50 (hn : n < 2) {M0 : MS} (la : Nat) (lb : Int32) : ∀ (m f : Nat), 12 - f = m → f ≤ 12 → ∀ (hp : AH) (M : MS), ST hp M zB tB n clk cc K D ev 0 0 0 (fun _ => 0) → FR M0 M n → gT M 2 n (clk % 9) = [] → WP L xs (d + 6) mX2_passTick 50 [some (.ref (xi 0 n 0 0)), some (.ref la), some (.int lb), some (.int (nI f))] [] hp (fun v hp' => retOk mX2_passTick.2.2.2 v ∧ v = none ∧ ∃ M', ST hp' M' zB tB n clk cc K D ev 0 0 0 (fun _ => 0) ∧ FR M0 M' n ∧ gT M' 2 n (clk % 9) = []) := by
  intro m
  induction m using Nat.strongRecOn with
  | ind m ih =>
    intro f hm hf0 hp M h hM hE
    subst hm
    refine wp_iload_n (i := 3) dX2_passTick_50 rfl rfl ?_
    refine wp_bipush (v := nI 12) dX2_passTick_51 (by decide) ?_
    refine wp_icmp_ge (tgt := 67) dX2_passTick_53 (by decide) (fun c53 => ?_) (fun c53 => ?_)
    · skip
      refine wp_iconst (v := 0) dX2_passTick_67 rfl ?_
      refine wp_istore_n (i := 3) dX2_passTick_68 rfl (Nat.le_of_ble_eq_true rfl) ?_
      exact w_tick_69 hn _ _ cc 0 rfl (Nat.zero_le _) _ _ h hM hE
    · skip
      refine wp_aload_n (i := 0) dX2_passTick_56 rfl rfl ?_
      refine wp_iload_n (i := 3) dX2_passTick_57 rfl rfl ?_
      have hf : f < 12 := (nI_ltI (by omega) (by decide)).mp c53
      refine wp_callV (N := mX2_lookAtFirst) (as := [.int (nI f)]) dX2_passTick_58 l_X2_141 v_X2_lookAtFirst rfl (h.1.oo (vs0 hn (k := 0) (by decide)) (by decide)) rfl (by decide) (s_lookAtFirst h hn hf) (fun v hp7 hq => ?_)
      obtain ⟨rfl, M7, hS7, hM7⟩ := hq
      refine wp_iinc (v := nI (f + 1)) dX2_passTick_61 rfl (nI_1 _) ?_
      refine wp_goto (tgt := 50) dX2_passTick_64 (by decide) ?_
      exact ih (12 - (f + 1)) (by omega) (f + 1) rfl (by omega) _ _ hS7 (hM.trans hM7.1) (by rw [hM7.2]; exact hE)
theorem w_tick_26 (hn : n < 2) {M0 : MS} {w : Nat} (hw2 : w < 65536) : ∀ (m r : Nat), w - r = m → r ≤ w → ∀ (hp : AH) (M : MS), ST hp M zB tB n clk cc K D ev r 0 0 (fun _ => 0) → FR M0 M n → (gT M 2 n (clk % 9)).length = w → WP L xs (d + 6) mX2_passTick 26 [some (.ref (xi 0 n 0 0)), some (.ref (xt 2 n (clk % 9))), some (.int (nI w)), some (.int (nI r))] [] hp (fun v hp' => retOk mX2_passTick.2.2.2 v ∧ v = none ∧ ∃ M', ST hp' M' zB tB n clk cc K D ev 0 0 0 (fun _ => 0) ∧ FR M0 M' n ∧ gT M' 2 n (clk % 9) = []) := by
  have hk9 : clk % 9 < 9 := Nat.mod_lt _ (by decide)
  intro m
  induction m using Nat.strongRecOn with
  | ind m ih =>
    intro r hm hr0 hp M h hM hw
    subst hm
    refine wp_iload_n (i := 3) dX2_passTick_26 rfl rfl ?_
    refine wp_iload_n (i := 2) dX2_passTick_27 rfl rfl ?_
    refine wp_icmp_ge (tgt := 43) dX2_passTick_28 (by decide) (fun c28 => ?_) (fun c28 => ?_)
    · skip
      refine wp_aload_n (i := 1) dX2_passTick_43 rfl rfl ?_
      refine wp_iconst (v := 0) dX2_passTick_44 rfl ?_
      have hrw : r = w := by
        rcases Nat.lt_or_ge r w with q | q
        · exact absurd (nI_lt q (by omega)) c28
        · omega
      subst hrw
      refine wp_put dX2_passTick_45 (h.1.oT (vt2 hn hk9)) (p_X2_59 rfl) (okI rfl) (by decide) ?_
      have hR1 := h.1.wipe (vt2 hn hk9)
      obtain ⟨hS9, hM9, hE9⟩ := h.gone hn hw hR1
      refine wp_iconst (v := 0) dX2_passTick_48 rfl ?_
      refine wp_istore_n (i := 3) dX2_passTick_49 rfl (Nat.le_of_ble_eq_true rfl) ?_
      exact w_tick_50 hn _ _ 12 0 rfl (by decide) _ _ hS9 (hM.trans hM9) hE9
    · skip
      refine wp_aload_n (i := 0) dX2_passTick_31 rfl rfl ?_
      refine wp_aload_n (i := 1) dX2_passTick_32 rfl rfl ?_
      refine wp_iload_n (i := 3) dX2_passTick_33 rfl rfl ?_
      have hrw : r < w := (nI_ltI (by omega) (by omega)).mp c28
      refine wp_callV (N := mX2_bring) (as := [.ref (xt 2 n (clk % 9)), .int (nI r)]) dX2_passTick_34 l_X2_137 v_X2_bring rfl (h.1.oo (vs0 hn (k := 0) (by decide)) (by decide)) rfl (by decide) (s_bring h hn (by omega)) (fun v hp7 hq => ?_)
      obtain ⟨rfl, M7, hS7, hM7⟩ := hq
      refine wp_iinc (v := nI (r + 1)) dX2_passTick_37 rfl (nI_1 _) ?_
      refine wp_goto (tgt := 26) dX2_passTick_40 (by decide) ?_
      exact ih (w - (r + 1)) (by omega) (r + 1) rfl (by omega) _ _ hS7 (hM.trans hM7.1) (by rw [hM7.2]; exact hw)
/-- a tick -/
theorem s_passTick (h : ST hp M zB tB n clk cc K D ev 0 0 0 (fun _ => 0)) (hn : n < 2) (hE : gT M 2 n (clk % 9) = []) (hb : clk + 1 < 1000) : WM L xs (d + 6) mX2_passTick [.ref (xi 0 n 0 0)] hp (fun v hp' => v = none ∧ ∃ M', ST hp' M' zB tB n (clk + 1) cc K D ev 0 0 0 (fun _ => 0) ∧ FR M M' n ∧ gT M' 2 n ((clk + 1) % 9) = []) := by
  have hk9 : (clk + 1) % 9 < 9 := Nat.mod_lt _ (by decide)
  obtain ⟨b1, b2, b3, b4, b5⟩ := h.2.2.1.1
  refine WM.of [some (.ref _), none, none, none] (by decide) rfl (Nat.le_of_ble_eq_true rfl) ?_
  refine wp_aload_n (i := 0) dX2_passTick_0 rfl rfl ?_
  refine wp_dup dX2_passTick_1 rfl ?_
  refine wr_get (g := 0) (n := n) (a := 0) (b := 0) (k := 0) dX2_passTick_2 h.1 f_X2_62 (vs0 hn (by decide)) (by decide) (by decide) ?_
  refine wp_iconst (v := 1) dX2_passTick_5 rfl ?_
  refine wp_iadd dX2_passTick_6 ?_
  rw [show gV M 0 n 0 0 0 + 1 = nI (clk + 1) from by rw [b3]; exact nI_add clk 1]
  refine wr_put (g := 0) (n := n) (a := 0) (b := 0) (k := 0) dX2_passTick_7 h.1 (p_X2_62 rfl) (vs0 hn (by decide)) (by decide) (by decide) (okI rfl) (fun hp2 hR1 => ?_)
  obtain ⟨hS1, hM1⟩ := h.tick hE hb hR1
  refine wp_aload_n (i := 0) dX2_passTick_10 rfl rfl ?_
  refine wp_aload_n (i := 0) dX2_passTick_11 rfl rfl ?_
  refine wr_get (g := 0) (n := n) (a := 0) (b := 0) (k := 0) dX2_passTick_12 hR1 f_X2_62 (vs0 hn (by decide)) (by decide) (by decide) ?_
  rw [sV_self]
  refine wp_callV (N := mX2_slotAt) (as := [.int (nI (clk + 1))]) dX2_passTick_15 l_X2_65 v_X2_slotAt rfl (hR1.oo (vs0 hn (k := 0) (by decide)) (by decide)) rfl (by decide) (s_slotAt hR1 hn (by omega)) (fun v hp6 hq => ?_)
  obtain ⟨rfl, rfl⟩ := hq
  refine wp_astore_n (i := 1) dX2_passTick_18 rfl (Nat.le_of_ble_eq_true rfl) ?_
  refine wp_aload_n (i := 1) dX2_passTick_19 rfl rfl ?_
  refine wr_rows dX2_passTick_20 hR1 f_X2_59 (vt2 hn hk9) ?_
  refine wp_istore_n (i := 2) dX2_passTick_23 rfl (Nat.le_of_ble_eq_true rfl) ?_
  refine wp_iconst (v := 0) dX2_passTick_24 rfl ?_
  refine wp_istore_n (i := 3) dX2_passTick_25 rfl (Nat.le_of_ble_eq_true rfl) ?_
  have hlen : (gT M 2 n ((clk + 1) % 9)).length ≤ 11328 := h.2.2.1.len h.2.2.2 (Nat.zero_le _) hk9 (by omega)
  exact w_tick_26 hn (by show (gT M 2 n ((clk + 1) % 9)).length < 65536; omega) _ 0 rfl (Nat.zero_le _) _ _ hS1 hM1 rfl
end TICK
end
section
/-! ===== Net: asked ===== -/
section ASK
variable {L : Nat} {xs : Nat → Int32} {d : Nat} {hp : AH} {M : MS} {n c f cc : Nat}
/-- how many things are on their way -/
def TN (M : MS) (n i : Nat) : Nat := sN i (fun k => (gT M 2 n k).length)
theorem w_tc_4 (hR : Rep hp M) (hn : n < 2) : ∀ (m i : Nat), 9 - i = m → i ≤ 9 → WP L xs d mX2_thingCount 4 [some (.ref (xi 0 n 0 0)), some (.int (nI (TN M n i))), some (.int (nI i))] [] hp (fun v hp' => retOk mX2_thingCount.2.2.2 v ∧ hp' = hp ∧ v = some (.int (nI (TN M n 9)))) := by
  intro m
  induction m using Nat.strongRecOn with
  | ind m ih =>
    intro i hm hi0
    subst hm
    refine wp_iload_n (i := 2) dX2_thingCount_4 rfl rfl ?_
    refine wp_bipush (v := nI 9) dX2_thingCount_5 (by decide) ?_
    refine wp_icmp_ge (tgt := 28) dX2_thingCount_7 (by decide) (fun c7 => ?_) (fun c7 => ?_)
    · skip
      have e9 : i = 9 := by
        rcases Nat.lt_or_ge i 9 with q | q
        · exact absurd (nI_lt q (by decide)) c7
        · omega
      subst e9
      refine wp_iload_n (i := 1) dX2_thingCount_28 rfl rfl ?_
      refine wp_ret (v := some (.int _)) dX2_thingCount_29 rfl ?_
      exact ⟨trivial, rfl, rfl⟩
    · skip
      have hi9 : i < 9 := (nI_ltI (by omega) (by decide)).mp c7
      refine wp_iload_n (i := 1) dX2_thingCount_10 rfl rfl ?_
      refine wp_aload_n (i := 0) dX2_thingCount_11 rfl rfl ?_
      refine wr_netR (j := rT n) dX2_thingCount_12 hR f_X2_35 hn (Or.inr (Or.inr ⟨rfl, rfl⟩)) ?_
      refine wp_iload_n (i := 2) dX2_thingCount_15 rfl rfl ?_
      refine wr_aT (k := i) dX2_thingCount_16 hR rfl hn hi9 ?_
      refine wr_rows dX2_thingCount_17 hR f_X2_59 (vt2 hn hi9) ?_
      refine wp_iadd dX2_thingCount_20 ?_
      rw [show nI (TN M n i) + nI (gT M 2 n i).length = nI (TN M n (i + 1)) from nI_add _ _]
      refine wp_istore_n (i := 1) dX2_thingCount_21 rfl (Nat.le_of_ble_eq_true rfl) ?_
      refine wp_iinc (v := nI (i + 1)) dX2_thingCount_22 rfl (nI_1 _) ?_
      refine wp_goto (tgt := 4) dX2_thingCount_25 (by decide) ?_
      have h9 := ih (9 - (i + 1)) (by omega) (i + 1) rfl (by omega)
      exact h9
/-- how many things are on their way -/
theorem s_thingCount (hR : Rep hp M) (hn : n < 2) : WM L xs d mX2_thingCount [.ref (xi 0 n 0 0)] hp (fun v hp' => hp' = hp ∧ v = some (.int (nI (TN M n 9)))) := by
  refine WM.of [some (.ref _), none, none] (by decide) rfl (Nat.le_of_ble_eq_true rfl) ?_
  refine wp_iconst (v := 0) dX2_thingCount_0 rfl ?_
  refine wp_istore_n (i := 1) dX2_thingCount_1 rfl (Nat.le_of_ble_eq_true rfl) ?_
  refine wp_iconst (v := 0) dX2_thingCount_2 rfl ?_
  refine wp_istore_n (i := 2) dX2_thingCount_3 rfl (Nat.le_of_ble_eq_true rfl) ?_
  exact w_tc_4 hR hn 9 0 rfl (by decide)
/-- a pair that is stale -/
def stl (M : MS) (n c f : Nat) (x : Int32) : Nat := if tru M n c f x (gV M 1 n c 0 6) ∧ gV M 2 n c f 4 = 0 ∧ ¬ gV M 2 n c f 2 = gV M 4 n f 0 1 then 1 else 0
def stC (M : MS) (n c : Nat) (x : Int32) (i : Nat) : Nat := sN i (fun f => stl M n c f x)
def stA (M : MS) (n : Nat) (x : Int32) (i : Nat) : Nat := sN i (fun c => stC M n c x 12)
theorem w_st_14 (hR : Rep hp M) (hn : n < 2) (hc4 : c < 4) {x : Int32} (hx : gV M 0 n 0 0 0 = x) (kk : ∀ (l4 : Nat), WP L xs (d + 1) mX2_staleCount 88 [some (.ref (xi 0 n 0 0)), some (.int (nI (stA M n x c + stC M n c x 12))), some (.int (nI c)), some (.int (nI 12)), some (.ref l4)] [] hp (fun v hp' => retOk mX2_staleCount.2.2.2 v ∧ hp' = hp ∧ v = some (.int (nI (stA M n x cc))))) : ∀ (m i : Nat), 12 - i = m → i ≤ 12 → ∀ (l4 : Option Value), (0 < i → ∃ a, l4 = some (.ref a)) → WP L xs (d + 1) mX2_staleCount 14 [some (.ref (xi 0 n 0 0)), some (.int (nI (stA M n x c + stC M n c x i))), some (.int (nI c)), some (.int (nI i)), l4] [] hp (fun v hp' => retOk mX2_staleCount.2.2.2 v ∧ hp' = hp ∧ v = some (.int (nI (stA M n x cc)))) := by
  intro m
  induction m using Nat.strongRecOn with
  | ind m ih =>
    intro i hm hi0 l4 hl4
    subst hm
    refine wp_iload_n (i := 3) dX2_staleCount_14 rfl rfl ?_
    refine wp_bipush (v := nI 12) dX2_staleCount_15 (by decide) ?_
    refine wp_icmp_ge (tgt := 88) dX2_staleCount_17 (by decide) (fun c17 => ?_) (fun c17 => ?_)
    · skip
      have e9 : i = 12 := by
        rcases Nat.lt_or_ge i 12 with q | q
        · exact absurd (nI_lt q (by decide)) c17
        · omega
      subst e9
      obtain ⟨a, rfl⟩ := hl4 (by decide)
      exact kk a
    · skip
      have hi9 : i < 12 := (nI_ltI (by omega) (by decide)).mp c17
      refine wp_aload_n (i := 0) dX2_staleCount_20 rfl rfl ?_
      refine wr_netR (j := rC n) dX2_staleCount_21 hR f_X2_23 hn (Or.inl ⟨rfl, rfl⟩) ?_
      refine wp_iload_n (i := 2) dX2_staleCount_24 rfl rfl ?_
      refine wr_aC (c := c) dX2_staleCount_25 hR rfl hn hc4 ?_
      refine wr_cliR (j := rF n c) dX2_staleCount_26 hR f_X2_86 hn hc4 (Or.inl ⟨rfl, rfl⟩) ?_
      refine wp_iload_n (i := 3) dX2_staleCount_29 rfl rfl ?_
      refine wr_aF (f := i) dX2_staleCount_30 hR rfl hn hc4 hi9 ?_
      refine wp_astore dX2_staleCount_31 (Nat.le_of_ble_eq_true rfl) ?_
      refine wp_aload dX2_staleCount_33 rfl ?_
      refine wp_aload_n (i := 0) dX2_staleCount_35 rfl rfl ?_
      refine wr_get (g := 0) (n := n) (a := 0) (b := 0) (k := 0) dX2_staleCount_36 hR f_X2_62 (vs0 hn (by decide)) (by decide) (by decide) ?_
      refine wp_aload_n (i := 0) dX2_staleCount_39 rfl rfl ?_
      refine wr_netR (j := rC n) dX2_staleCount_40 hR f_X2_23 hn (Or.inl ⟨rfl, rfl⟩) ?_
      refine wp_iload_n (i := 2) dX2_staleCount_43 rfl rfl ?_
      refine wr_aC (c := c) dX2_staleCount_44 hR rfl hn hc4 ?_
      refine wr_get (g := 1) (n := n) (a := c) (b := 0) (k := 6) dX2_staleCount_45 hR f_X2_82 (vs1 hn hc4 (by decide)) (by decide) (by decide) ?_
      rw [hx]
      refine wp_callV (N := mX1_isTrusted) dX2_staleCount_48 l_X2_105 v_X1_isTrusted rfl (hR.oo (vs2 hn hc4 hi9 (k := 0) (by decide)) (by decide)) rfl (by decide) (s_isTrusted hR hn hc4 hi9 x (gV M 1 n c 0 6)) (fun v hp9 hq => ?_)
      obtain ⟨rfl, rfl⟩ := hq
      refine wp_if_eq (tgt := 82) dX2_staleCount_51 (by decide) (fun c51 => ?_) (fun c51 => ?_)
      · skip
        refine wp_iinc (v := nI (i + 1)) dX2_staleCount_82 rfl (nI_1 _) ?_
        refine wp_goto (tgt := 14) dX2_staleCount_85 (by decide) ?_
        have e9 : stC M n c x (i + 1) = stC M n c x i := congrArg (stC M n c x i + ·) (if_neg (fun q => bI_eq.mp c51 q.1))
        have h9 := ih (12 - (i + 1)) (by omega) (i + 1) rfl (by omega) (some (.ref (xi 2 n c i))) (fun _ => ⟨_, rfl⟩)
        rw [e9] at h9
        exact h9
      · skip
        refine wp_aload dX2_staleCount_54 rfl ?_
        refine wr_get (g := 2) (n := n) (a := c) (b := i) (k := 4) dX2_staleCount_56 hR f_X2_131 (vs2 hn hc4 hi9 (by decide)) (by decide) (by decide) ?_
        refine wp_if_ne (tgt := 82) dX2_staleCount_59 (by decide) (fun c59 => ?_) (fun c59 => ?_)
        · skip
          refine wp_iinc (v := nI (i + 1)) dX2_staleCount_82 rfl (nI_1 _) ?_
          refine wp_goto (tgt := 14) dX2_staleCount_85 (by decide) ?_
          have e9 : stC M n c x (i + 1) = stC M n c x i := congrArg (stC M n c x i + ·) (if_neg (fun q => c59 q.2.1))
          have h9 := ih (12 - (i + 1)) (by omega) (i + 1) rfl (by omega) (some (.ref (xi 2 n c i))) (fun _ => ⟨_, rfl⟩)
          rw [e9] at h9
          exact h9
        · skip
          refine wp_aload dX2_staleCount_62 rfl ?_
          refine wr_get (g := 2) (n := n) (a := c) (b := i) (k := 2) dX2_staleCount_64 hR f_X2_98 (vs2 hn hc4 hi9 (by decide)) (by decide) (by decide) ?_
          refine wp_aload_n (i := 0) dX2_staleCount_67 rfl rfl ?_
          refine wr_netR (j := rS n) dX2_staleCount_68 hR f_X2_29 hn (Or.inr (Or.inl ⟨rfl, rfl⟩)) ?_
          refine wp_iload_n (i := 3) dX2_staleCount_71 rfl rfl ?_
          refine wr_aS (f := i) dX2_staleCount_72 hR rfl hn hi9 ?_
          refine wr_get (g := 4) (n := n) (a := i) (b := 0) (k := 1) dX2_staleCount_73 hR f_X2_202 (vs4 hn hi9 (by decide)) (by decide) (by decide) ?_
          refine wp_icmp_eq (tgt := 82) dX2_staleCount_76 (by decide) (fun c76 => ?_) (fun c76 => ?_)
          · skip
            refine wp_iinc (v := nI (i + 1)) dX2_staleCount_82 rfl (nI_1 _) ?_
            refine wp_goto (tgt := 14) dX2_staleCount_85 (by decide) ?_
            have e9 : stC M n c x (i + 1) = stC M n c x i := congrArg (stC M n c x i + ·) (if_neg (fun q => q.2.2 c76))
            have h9 := ih (12 - (i + 1)) (by omega) (i + 1) rfl (by omega) (some (.ref (xi 2 n c i))) (fun _ => ⟨_, rfl⟩)
            rw [e9] at h9
            exact h9
          · skip
            refine wp_iinc (v := nI ((stA M n x c + stC M n c x i) + 1)) dX2_staleCount_79 rfl (nI_1 _) ?_
            refine wp_iinc (v := nI (i + 1)) dX2_staleCount_82 rfl (nI_1 _) ?_
            refine wp_goto (tgt := 14) dX2_staleCount_85 (by decide) ?_
            rw [show nI (stA M n x c + stC M n c x i + 1) = nI (stA M n x c + stC M n c x (i + 1)) from by
              have e9 : stC M n c x (i + 1) = stC M n c x i + 1 := congrArg (stC M n c x i + ·) (if_pos ⟨bI_ne.mp c51, c59, c76⟩)
              rw [e9]; rfl]
            exact ih (12 - (i + 1)) (by omega) (i + 1) rfl (by omega) _ (fun _ => ⟨_, rfl⟩)
theorem w_st_4 (hR : Rep hp M) (hn : n < 2) {x : Int32} (hx : gV M 0 n 0 0 0 = x) (hcc : gV M 0 n 0 0 4 = nI cc) (h4 : cc ≤ 4) : ∀ (m c : Nat), cc - c = m → c ≤ cc → ∀ (l3 l4 : Option Value), (l3 = none ∧ l4 = none ∨ ∃ y a, l3 = some (.int y) ∧ l4 = some (.ref a)) → WP L xs (d + 1) mX2_staleCount 4 [some (.ref (xi 0 n 0 0)), some (.int (nI (stA M n x c))), some (.int (nI c)), l3, l4] [] hp (fun v hp' => retOk mX2_staleCount.2.2.2 v ∧ hp' = hp ∧ v = some (.int (nI (stA M n x cc)))) := by
  intro m
  induction m using Nat.strongRecOn with
  | ind m ih =>
    intro c hm hc0 l3 l4 hl
    subst hm
    rcases hl with ⟨rfl, rfl⟩ | ⟨y, a, rfl, rfl⟩
    · skip
      refine wp_iload_n (i := 2) dX2_staleCount_4 rfl rfl ?_
      refine wp_aload_n (i := 0) dX2_staleCount_5 rfl rfl ?_
      refine wr_get (g := 0) (n := n) (a := 0) (b := 0) (k := 4) dX2_staleCount_6 hR f_X2_44 (vs0 hn (by decide)) (by decide) (by decide) ?_
      refine wp_icmp_ge (tgt := 94) dX2_staleCount_9 (by decide) (fun c9 => ?_) (fun c9 => ?_)
      · skip
        refine wp_iload_n (i := 1) dX2_staleCount_94 rfl rfl ?_
        refine wp_ret (v := some (.int _)) dX2_staleCount_95 rfl ?_
        have e9 : c = cc := by
          rcases Nat.lt_or_ge c cc with q | q
          · exact absurd (by rw [hcc]; exact nI_lt q (by omega)) c9
          · omega
        subst e9
        exact ⟨trivial, rfl, rfl⟩
      · skip
        have hcl : c < cc := by rw [hcc] at c9; exact (nI_ltI (by omega) (by omega)).mp c9
        refine wp_iconst (v := 0) dX2_staleCount_12 rfl ?_
        refine wp_istore_n (i := 3) dX2_staleCount_13 rfl (Nat.le_of_ble_eq_true rfl) ?_
        have hc4 : c < 4 := by omega
        exact w_st_14 hR hn hc4 hx (fun l9 => (by
          refine wp_iinc (v := nI (c + 1)) dX2_staleCount_88 rfl (nI_1 _) ?_
          refine wp_goto (tgt := 4) dX2_staleCount_91 (by decide) ?_
          exact ih (cc - (c + 1)) (by omega) (c + 1) rfl (by omega) _ _ (Or.inr ⟨_, _, rfl, rfl⟩))) 12 0 rfl (by decide) _ (fun q => absurd q (Nat.lt_irrefl _))
    · skip
      refine wp_iload_n (i := 2) dX2_staleCount_4 rfl rfl ?_
      refine wp_aload_n (i := 0) dX2_staleCount_5 rfl rfl ?_
      refine wr_get (g := 0) (n := n) (a := 0) (b := 0) (k := 4) dX2_staleCount_6 hR f_X2_44 (vs0 hn (by decide)) (by decide) (by decide) ?_
      refine wp_icmp_ge (tgt := 94) dX2_staleCount_9 (by decide) (fun c9 => ?_) (fun c9 => ?_)
      · skip
        refine wp_iload_n (i := 1) dX2_staleCount_94 rfl rfl ?_
        refine wp_ret (v := some (.int _)) dX2_staleCount_95 rfl ?_
        have e9 : c = cc := by
          rcases Nat.lt_or_ge c cc with q | q
          · exact absurd (by rw [hcc]; exact nI_lt q (by omega)) c9
          · omega
        subst e9
        exact ⟨trivial, rfl, rfl⟩
      · skip
        have hcl : c < cc := by rw [hcc] at c9; exact (nI_ltI (by omega) (by omega)).mp c9
        refine wp_iconst (v := 0) dX2_staleCount_12 rfl ?_
        refine wp_istore_n (i := 3) dX2_staleCount_13 rfl (Nat.le_of_ble_eq_true rfl) ?_
        have hc4 : c < 4 := by omega
        exact w_st_14 hR hn hc4 hx (fun l9 => (by
          refine wp_iinc (v := nI (c + 1)) dX2_staleCount_88 rfl (nI_1 _) ?_
          refine wp_goto (tgt := 4) dX2_staleCount_91 (by decide) ?_
          exact ih (cc - (c + 1)) (by omega) (c + 1) rfl (by omega) _ _ (Or.inr ⟨_, _, rfl, rfl⟩))) 12 0 rfl (by decide) _ (fun q => absurd q (Nat.lt_irrefl _))
/-- the pairs that are stale -/
theorem s_staleCount (hR : Rep hp M) (hn : n < 2) {x : Int32} (hx : gV M 0 n 0 0 0 = x) (hcc : gV M 0 n 0 0 4 = nI cc) (h4 : cc ≤ 4) : WM L xs (d + 1) mX2_staleCount [.ref (xi 0 n 0 0)] hp (fun v hp' => hp' = hp ∧ v = some (.int (nI (stA M n x cc)))) := by
  refine WM.of [some (.ref _), none, none, none, none] (by decide) rfl (Nat.le_of_ble_eq_true rfl) ?_
  refine wp_iconst (v := 0) dX2_staleCount_0 rfl ?_
  refine wp_istore_n (i := 1) dX2_staleCount_1 rfl (Nat.le_of_ble_eq_true rfl) ?_
  refine wp_iconst (v := 0) dX2_staleCount_2 rfl ?_
  refine wp_istore_n (i := 2) dX2_staleCount_3 rfl (Nat.le_of_ble_eq_true rfl) ?_
  exact w_st_4 hR hn hx hcc h4 cc 0 rfl (Nat.zero_le _) _ _ (Or.inl ⟨rfl, rfl⟩)
theorem sN_list {k : Nat} {g : Nat → Nat} (h : ∀ i, i < k → g i ≤ 1) : ∃ z : List Nat, z.length = sN k g ∧ z.Nodup ∧ ∀ i, i ∈ z → i < k ∧ g i = 1 := by
  induction k with
  | zero => exact ⟨[], rfl, List.nodup_nil, fun i hi => absurd hi List.not_mem_nil⟩
  | succ k ih =>
    obtain ⟨z, z1, z2, z3⟩ := ih (fun i hi => h i (by omega))
    have h9 := h k (Nat.lt_succ_self _)
    rcases (show g k = 0 ∨ g k = 1 by omega) with e | e
    · exact ⟨z, by show _ = sN k g + g k; omega, z2, fun i hi => ⟨by have := (z3 i hi).1; omega, (z3 i hi).2⟩⟩
    · refine ⟨k :: z, by show z.length + 1 = sN k g + g k; omega, List.nodup_cons.mpr ⟨fun hk => Nat.lt_irrefl _ (z3 k hk).1, z2⟩, fun i hi => ?_⟩
      rcases List.mem_cons.mp hi with rfl | hi
      · exact ⟨Nat.lt_succ_self _, e⟩
      · exact ⟨by have := (z3 i hi).1; omega, (z3 i hi).2⟩
theorem stl_le (M : MS) (n c f : Nat) (x : Int32) : stl M n c f x ≤ 1 := by unfold stl; split <;> omega
/-- a client has no more stale files than files -/
theorem stC_le {l : List Nat} (hI : CI M n c l) (x : Int32) : stC M n c x 12 ≤ 6 := by
  obtain ⟨z, z1, z2, z3⟩ := sN_list (k := 12) (g := fun f => stl M n c f x) (fun f _ => stl_le M n c f x)
  show sN 12 _ ≤ 6
  rw [← z1]
  refine Nat.le_trans (nodup_sub z2 (fun f hf => ?_)) hI.2.2.1
  obtain ⟨h1, h2⟩ := z3 f hf
  have h2 : stl M n c f x = 1 := h2
  unfold stl at h2
  by_cases h9 : tru M n c f x (gV M 1 n c 0 6) ∧ gV M 2 n c f 4 = 0 ∧ ¬ gV M 2 n c f 2 = gV M 4 n f 0 1
  · exact (hI.2.2.2.1 f h1).mp h9.1.1
  · rw [if_neg h9] at h2; exact absurd h2 (by decide)
theorem stA_le (h : ∀ c, c < cc → ∃ l, CI M n c l) (x : Int32) : stA M n x cc ≤ 6 * cc := by
  rw [Nat.mul_comm]
  exact sN_bd (fun c hc => by obtain ⟨l, hI⟩ := h c hc; exact stC_le hI x)
end ASK
end
section
/-! ===== Net: asked, II ===== -/
section ASK2
variable {L : Nat} {xs : Nat → Int32} {d : Nat} {hp : AH} {M : MS} {n c f cc clk : Nat}
theorem w_calm_33 (hR : Rep hp M) (hn : n < 2) (hcc : gV M 0 n 0 0 4 = nI cc) (h4 : cc ≤ 4) : ∀ (m i : Nat), cc - i = m → i ≤ cc → WP L xs (d + 1) mX2_isCalm 33 [some (.ref (xi 0 n 0 0)), some (.int (nI i))] [] hp (fun v hp' => retOk mX2_isCalm.2.2.2 v ∧ hp' = hp ∧ ∃ r, v = some (.int r) ∧ (r = 0 ∨ r = 1)) := by
  intro m
  induction m using Nat.strongRecOn with
  | ind m ih =>
    intro i hm hi0
    subst hm
    refine wp_iload_n (i := 1) dX2_isCalm_33 rfl rfl ?_
    refine wp_aload_n (i := 0) dX2_isCalm_34 rfl rfl ?_
    refine wr_get (g := 0) (n := n) (a := 0) (b := 0) (k := 4) dX2_isCalm_35 hR f_X2_44 (vs0 hn (by decide)) (by decide) (by decide) ?_
    refine wp_icmp_ge (tgt := 73) dX2_isCalm_38 (by decide) (fun c38 => ?_) (fun c38 => ?_)
    · skip
      refine wp_aload_n (i := 0) dX2_isCalm_73 rfl rfl ?_
      refine wp_callV (N := mX2_thingCount) (as := []) dX2_isCalm_74 l_X2_208 v_X2_thingCount rfl (hR.oo (vs0 hn (k := 0) (by decide)) (by decide)) rfl (by decide) (s_thingCount hR hn) (fun v hp9 hq => ?_)
      obtain ⟨rfl, rfl⟩ := hq
      refine wp_if_ne (tgt := 84) dX2_isCalm_77 (by decide) (fun c77 => ?_) (fun c77 => ?_)
      · skip
        refine wp_iconst (v := 0) dX2_isCalm_84 rfl ?_
        refine wp_ret (v := some (.int _)) dX2_isCalm_85 rfl ?_
        exact ⟨by first | exact Or.inl rfl | exact Or.inr rfl, rfl, _, rfl, by first | exact Or.inl rfl | exact Or.inr rfl⟩
      · skip
        refine wp_iconst (v := 1) dX2_isCalm_80 rfl ?_
        refine wp_goto (tgt := 85) dX2_isCalm_81 (by decide) ?_
        refine wp_ret (v := some (.int _)) dX2_isCalm_85 rfl ?_
        exact ⟨by first | exact Or.inl rfl | exact Or.inr rfl, rfl, _, rfl, by first | exact Or.inl rfl | exact Or.inr rfl⟩
    · skip
      have hil : i < cc := by rw [hcc] at c38; exact (nI_ltI (by omega) (by omega)).mp c38
      have hi9 : i < 4 := by omega
      refine wp_aload_n (i := 0) dX2_isCalm_41 rfl rfl ?_
      refine wr_netR (j := rC n) dX2_isCalm_42 hR f_X2_23 hn (Or.inl ⟨rfl, rfl⟩) ?_
      refine wp_iload_n (i := 1) dX2_isCalm_45 rfl rfl ?_
      refine wr_aC (c := i) dX2_isCalm_46 hR rfl hn hi9 ?_
      refine wr_get (g := 1) (n := n) (a := i) (b := 0) (k := 6) dX2_isCalm_47 hR f_X2_82 (vs1 hn hi9 (by decide)) (by decide) (by decide) ?_
      refine wp_if_ne (tgt := 67) dX2_isCalm_50 (by decide) (fun c50 => ?_) (fun c50 => ?_)
      · skip
        refine wp_iinc (v := nI (i + 1)) dX2_isCalm_67 rfl (nI_1 _) ?_
        refine wp_goto (tgt := 33) dX2_isCalm_70 (by decide) ?_
        exact ih (cc - (i + 1)) (by omega) (i + 1) rfl (by omega)
      · skip
        refine wp_aload_n (i := 0) dX2_isCalm_53 rfl rfl ?_
        refine wr_netR (j := rC n) dX2_isCalm_54 hR f_X2_23 hn (Or.inl ⟨rfl, rfl⟩) ?_
        refine wp_iload_n (i := 1) dX2_isCalm_57 rfl rfl ?_
        refine wr_aC (c := i) dX2_isCalm_58 hR rfl hn hi9 ?_
        refine wp_callV (N := mX0_isClean) (as := []) dX2_isCalm_59 l_X2_204 v_X0_isClean rfl (hR.oo (vs1 hn hi9 (k := 2) (by decide)) (by decide)) rfl (by decide) (s_isClean hR hn hi9) (fun v hp9 hq => ?_)
        obtain ⟨rfl, rr, rfl, hrr⟩ := hq
        refine wp_if_ne (tgt := 67) dX2_isCalm_62 (by decide) (fun c62 => ?_) (fun c62 => ?_)
        · skip
          refine wp_iinc (v := nI (i + 1)) dX2_isCalm_67 rfl (nI_1 _) ?_
          refine wp_goto (tgt := 33) dX2_isCalm_70 (by decide) ?_
          exact ih (cc - (i + 1)) (by omega) (i + 1) rfl (by omega)
        · skip
          refine wp_iconst (v := 0) dX2_isCalm_65 rfl ?_
          refine wp_ret (v := some (.int _)) dX2_isCalm_66 rfl ?_
          exact ⟨by first | exact Or.inl rfl | exact Or.inr rfl, rfl, _, rfl, by first | exact Or.inl rfl | exact Or.inr rfl⟩
theorem w_calm_2 (hR : Rep hp M) (hn : n < 2) (hcc : gV M 0 n 0 0 4 = nI cc) (h4 : cc ≤ 4) : ∀ (m i : Nat), 12 - i = m → i ≤ 12 → WP L xs (d + 1) mX2_isCalm 2 [some (.ref (xi 0 n 0 0)), some (.int (nI i))] [] hp (fun v hp' => retOk mX2_isCalm.2.2.2 v ∧ hp' = hp ∧ ∃ r, v = some (.int r) ∧ (r = 0 ∨ r = 1)) := by
  intro m
  induction m using Nat.strongRecOn with
  | ind m ih =>
    intro i hm hi0
    subst hm
    refine wp_iload_n (i := 1) dX2_isCalm_2 rfl rfl ?_
    refine wp_bipush (v := nI 12) dX2_isCalm_3 (by decide) ?_
    refine wp_icmp_ge (tgt := 31) dX2_isCalm_5 (by decide) (fun c5 => ?_) (fun c5 => ?_)
    · skip
      refine wp_iconst (v := 0) dX2_isCalm_31 rfl ?_
      refine wp_istore_n (i := 1) dX2_isCalm_32 rfl (Nat.le_of_ble_eq_true rfl) ?_
      exact w_calm_33 hR hn hcc h4 cc 0 rfl (Nat.zero_le _)
    · skip
      have hi9 : i < 12 := (nI_ltI (by omega) (by decide)).mp c5
      refine wp_aload_n (i := 0) dX2_isCalm_8 rfl rfl ?_
      refine wr_netR (j := rS n) dX2_isCalm_9 hR f_X2_29 hn (Or.inr (Or.inl ⟨rfl, rfl⟩)) ?_
      refine wp_iload_n (i := 1) dX2_isCalm_12 rfl rfl ?_
      refine wr_aS (f := i) dX2_isCalm_13 hR rfl hn hi9 ?_
      refine wr_sheR (j := xt 1 n i) dX2_isCalm_14 hR f_X2_179 hn hi9 (Or.inr ⟨rfl, rfl⟩) ?_
      refine wr_rows dX2_isCalm_17 hR f_X2_59 (vt1 hn hi9) ?_
      refine wp_if_le (tgt := 25) dX2_isCalm_20 (by decide) (fun c20 => ?_) (fun c20 => ?_)
      · skip
        refine wp_iinc (v := nI (i + 1)) dX2_isCalm_25 rfl (nI_1 _) ?_
        refine wp_goto (tgt := 2) dX2_isCalm_28 (by decide) ?_
        exact ih (12 - (i + 1)) (by omega) (i + 1) rfl (by omega)
      · skip
        refine wp_iconst (v := 0) dX2_isCalm_23 rfl ?_
        refine wp_ret (v := some (.int _)) dX2_isCalm_24 rfl ?_
        exact ⟨by first | exact Or.inl rfl | exact Or.inr rfl, rfl, _, rfl, by first | exact Or.inl rfl | exact Or.inr rfl⟩
/-- whether all is calm -/
theorem s_isCalm (hR : Rep hp M) (hn : n < 2) (hcc : gV M 0 n 0 0 4 = nI cc) (h4 : cc ≤ 4) : WM L xs (d + 1) mX2_isCalm [.ref (xi 0 n 0 0)] hp (fun v hp' => hp' = hp ∧ ∃ r, v = some (.int r) ∧ (r = 0 ∨ r = 1)) := by
  refine WM.of [some (.ref _), none] (by decide) rfl (Nat.le_of_ble_eq_true rfl) ?_
  refine wp_iconst (v := 0) dX2_isCalm_0 rfl ?_
  refine wp_istore_n (i := 1) dX2_isCalm_1 rfl (Nat.le_of_ble_eq_true rfl) ?_
  exact w_calm_2 hR hn hcc h4 12 0 rfl (by decide)
/-- the rows that come at the next clocks -/
def LU (M : MS) (n clk u : Nat) : Nat := sN u (fun i => (gT M 2 n ((clk + (i + 1)) % 9)).length)
def tTh (M : MS) (n clk p k : Nat) (x : Int32) : Prop := LU M n clk 8 ≤ p ∨ ∃ u, u < 8 ∧ LU M n clk u ≤ p ∧ p < LU M n clk (u + 1) ∧ x = gC M 2 n ((clk + (u + 1)) % 9) (p - LU M n clk u) k
theorem w_tt_5 (hR : Rep hp M) (hn : n < 2) (hclk : gV M 0 n 0 0 0 = nI clk) (hb : clk < 1000) {p k : Nat} (hp0 : p < 2 ^ 30) (hk : k < 8) : ∀ (m u : Nat), 8 - u = m → u ≤ 8 → LU M n clk u ≤ p → ∀ (l5 : Option Value), WP L xs (d + 2) mX2_tellThing 5 [some (.ref (xi 0 n 0 0)), some (.int (nI p)), some (.int (nI k)), some (.int (nI (p - LU M n clk u))), some (.int (nI (u + 1))), l5] [] hp (fun v hp' => retOk mX2_tellThing.2.2.2 v ∧ hp' = hp ∧ ∃ x, v = some (.int x) ∧ tTh M n clk p k x) := by
  intro m
  induction m using Nat.strongRecOn with
  | ind m ih =>
    intro u hm hu0 hle l5
    have hk9 : (clk + (u + 1)) % 9 < 9 := Nat.mod_lt _ (by decide)
    subst hm
    refine wp_iload dX2_tellThing_5 rfl ?_
    refine wp_bipush (v := nI 8) dX2_tellThing_7 (by decide) ?_
    refine wp_icmp_gt (tgt := 56) dX2_tellThing_9 (by decide) (fun c9 => ?_) (fun c9 => ?_)
    · skip
      refine wp_iconst (v := 0) dX2_tellThing_56 rfl ?_
      refine wp_ret (v := some (.int _)) dX2_tellThing_57 rfl ?_
      have e9 : u = 8 := by
        have := (nI_ltI (show 8 < 2 ^ 31 by decide) (show u + 1 < 2 ^ 31 by omega)).mp c9
        omega
      subst e9
      exact ⟨trivial, rfl, _, rfl, Or.inl hle⟩
    · skip
      refine wp_aload_n (i := 0) dX2_tellThing_12 rfl rfl ?_
      refine wp_aload_n (i := 0) dX2_tellThing_13 rfl rfl ?_
      refine wr_get (g := 0) (n := n) (a := 0) (b := 0) (k := 0) dX2_tellThing_14 hR f_X2_62 (vs0 hn (by decide)) (by decide) (by decide) ?_
      refine wp_iload dX2_tellThing_17 rfl ?_
      refine wp_iadd dX2_tellThing_19 ?_
      have hu8 : u < 8 := by
        rcases Nat.lt_or_ge u 8 with q | q
        · exact q
        · exact absurd (show nI 8 < nI (u + 1) from nI_lt (by omega) (by omega)) c9
      rw [hclk, nI_add]
      refine wp_callV (N := mX2_slotAt) (as := [.int (nI (clk + (u + 1)))]) dX2_tellThing_20 l_X2_65 v_X2_slotAt rfl (hR.oo (vs0 hn (k := 0) (by decide)) (by decide)) rfl (by decide) (s_slotAt hR hn (by omega)) (fun v hp6 hq => ?_)
      obtain ⟨rfl, rfl⟩ := hq
      refine wp_astore dX2_tellThing_23 (Nat.le_of_ble_eq_true rfl) ?_
      refine wp_iload_n (i := 3) dX2_tellThing_25 rfl rfl ?_
      refine wp_aload dX2_tellThing_26 rfl ?_
      refine wr_rows dX2_tellThing_28 hR f_X2_59 (vt2 hn hk9) ?_
      refine wp_icmp_ge (tgt := 42) dX2_tellThing_31 (by decide) (fun c31 => ?_) (fun c31 => ?_)
      · skip
        refine wp_iload_n (i := 3) dX2_tellThing_42 rfl rfl ?_
        refine wp_aload dX2_tellThing_43 rfl ?_
        refine wr_rows dX2_tellThing_45 hR f_X2_59 (vt2 hn hk9) ?_
        refine wp_isub dX2_tellThing_48 ?_
        have hcl : (gT M 2 n ((clk + (u + 1)) % 9)).length ≤ p - LU M n clk u := by
          rcases Nat.lt_or_ge (p - LU M n clk u) (gT M 2 n ((clk + (u + 1)) % 9)).length with q | q
          · exact absurd (nI_lt q (by have := (hR.T (vt2 hn hk9)).2.2.2.2.2.2.2; omega)) c31
          · exact q
        have e9 : LU M n clk (u + 1) = LU M n clk u + (gT M 2 n ((clk + (u + 1)) % 9)).length := rfl
        rw [pk_sub hcl, show p - LU M n clk u - (gT M 2 n ((clk + (u + 1)) % 9)).length = p - LU M n clk (u + 1) from by omega]
        refine wp_istore_n (i := 3) dX2_tellThing_49 rfl (Nat.le_of_ble_eq_true rfl) ?_
        refine wp_iinc (v := nI ((u + 1) + 1)) dX2_tellThing_50 rfl (nI_1 _) ?_
        refine wp_goto (tgt := 5) dX2_tellThing_53 (by decide) ?_
        exact ih (8 - (u + 1)) (by omega) (u + 1) rfl (by omega) (by omega) _
      · skip
        refine wp_aload dX2_tellThing_34 rfl ?_
        refine wp_iload_n (i := 3) dX2_tellThing_36 rfl rfl ?_
        refine wp_iload_n (i := 2) dX2_tellThing_37 rfl rfl ?_
        have hlr : p - LU M n clk u < (gT M 2 n ((clk + (u + 1)) % 9)).length := (nI_ltI (by omega) (by have := (hR.T (vt2 hn hk9)).2.2.2.2.2.2.2; omega)).mp c31
        refine wp_callV (N := mX4_get) (as := [.int (nI (p - LU M n clk u)), .int (nI k)]) dX2_tellThing_38 l_X2_69 v_X4_get rfl (hR.oT (vt2 hn hk9)) rfl (by decide) (s_get hR (vt2 hn hk9) hlr (c := k) hk) (fun v hp9 hq => ?_)
        obtain ⟨rfl, rfl⟩ := hq
        refine wp_ret (v := some (.int _)) dX2_tellThing_41 rfl ?_
        have e9 : LU M n clk (u + 1) = LU M n clk u + (gT M 2 n ((clk + (u + 1)) % 9)).length := rfl
        exact ⟨trivial, rfl, _, rfl, Or.inr ⟨u, hu8, hle, by omega, rfl⟩⟩
/-- a thing on its way, told -/
theorem s_tellThing (hR : Rep hp M) (hn : n < 2) (hclk : gV M 0 n 0 0 0 = nI clk) (hb : clk < 1000) {p k : Nat} (hp0 : p < 2 ^ 30) (hk : k < 8) : WM L xs (d + 2) mX2_tellThing [.ref (xi 0 n 0 0), .int (nI p), .int (nI k)] hp (fun v hp' => hp' = hp ∧ ∃ x, v = some (.int x) ∧ tTh M n clk p k x) := by
  refine WM.of [some (.ref _), some (.int (nI p)), some (.int (nI k)), none, none, none] (by decide) rfl (Nat.le_of_ble_eq_true rfl) ?_
  refine wp_iload_n (i := 1) dX2_tellThing_0 rfl rfl ?_
  refine wp_istore_n (i := 3) dX2_tellThing_1 rfl (Nat.le_of_ble_eq_true rfl) ?_
  refine wp_iconst (v := 1) dX2_tellThing_2 rfl ?_
  refine wp_istore dX2_tellThing_3 (Nat.le_of_ble_eq_true rfl) ?_
  exact w_tt_5 hR hn hclk hb hp0 hk 8 0 rfl (by decide) (Nat.zero_le _) _
end ASK2
end
section
/-! ===== digests ===== -/
def dg1 (M : MS) (n c : Nat) (s : Int64) : Nat → Int64
  | 0 => s
  | k + 1 => dg1 M n c s k * 31 + (cTell M n c k).toInt64
def dg2 (M : MS) (n c : Nat) (s : Int64) : Nat → Int64
  | 0 => s
  | k + 1 => dg2 M n c s k * 31 + (gV M 3 n c 0 k).toInt64
def dg3 (M : MS) (n c f : Nat) (x : Int32) (s : Int64) : Nat → Int64
  | 0 => s
  | k + 1 => dg3 M n c f x s k * 31 + (hTell M n c f k x (gV M 1 n c 0 6)).toInt64
def dg4 (M : MS) (n c : Nat) (x : Int32) (s : Int64) : Nat → Int64
  | 0 => s
  | f + 1 => dg3 M n c f x (dg4 M n c x s f) 6
def dgC (M : MS) (n c cnt : Nat) (x : Int32) (s : Int64) : Int64 := dg4 M n c x (dg2 M n c (dg1 M n c s 7) cnt) 12
def dgR (M : MS) (n k r : Nat) (s : Int64) : Nat → Int64
  | 0 => s
  | w + 1 => dgR M n k r s w * 31 + (gC M 2 n k r w).toInt64
def dgS (M : MS) (n k : Nat) (s : Int64) : Nat → Int64
  | 0 => s
  | r + 1 => dgR M n k r (dgS M n k s r) 4
def dgT (M : MS) (n clk : Nat) (s : Int64) : Nat → Int64
  | 0 => s
  | u + 1 => dgS M n ((clk + (u + 1)) % 9) (dgT M n clk s u) (gT M 2 n ((clk + (u + 1)) % 9)).length
section DIGEST
variable {L : Nat} {xs : Nat → Int32} {d : Nat} {hp : AH} {M : MS} {n c f cc clk cnt : Nat} {x : Int32} {s0 : Int64}
theorem w_ad_83 (hR : Rep hp M) (hn : n < 2) (hc4 : c < 4) (hf9 : f < 12) (kk : WP L xs (d + 2) mX0_addToDigest 122 [some (.ref (xi 1 n c 0)), some (.long s0), none, some (.int x), some (.long (dg3 M n c f x (dg4 M n c x (dg2 M n c (dg1 M n c s0 7) cnt) f) 6)), none, some (.int (nI f)), some (.int (nI 6))] [] hp (fun v hp' => retOk mX0_addToDigest.2.2.2 v ∧ hp' = hp ∧ v = some (.long (dgC M n c cnt x s0)))) : ∀ (m i : Nat), 6 - i = m → i ≤ 6 → WP L xs (d + 2) mX0_addToDigest 83 [some (.ref (xi 1 n c 0)), some (.long s0), none, some (.int x), some (.long (dg3 M n c f x (dg4 M n c x (dg2 M n c (dg1 M n c s0 7) cnt) f) i)), none, some (.int (nI f)), some (.int (nI i))] [] hp (fun v hp' => retOk mX0_addToDigest.2.2.2 v ∧ hp' = hp ∧ v = some (.long (dgC M n c cnt x s0))) := by
  intro m
  induction m using Nat.strongRecOn with
  | ind m ih =>
    intro i hm hi0
    subst hm
    refine wp_iload dX0_addToDigest_83 rfl ?_
    refine wp_iconst (v := 5) dX0_addToDigest_85 rfl ?_
    refine wp_icmp_gt (tgt := 122) dX0_addToDigest_86 (by decide) (fun c86 => ?_) (fun c86 => ?_)
    · skip
      have e9 : i = 6 := by
        have := (nI_ltI (show 5 < 2 ^ 31 by decide) (show i < 2 ^ 31 by omega)).mp c86
        omega
      subst e9
      exact kk
    · skip
      refine wp_lload dX0_addToDigest_89 rfl ?_
      refine wp_ldc2 dX0_addToDigest_91 k_X0_119 ?_
      refine wp_lmul dX0_addToDigest_94 ?_
      refine wp_aload_n (i := 0) dX0_addToDigest_95 rfl rfl ?_
      refine wr_cliR (j := rF n c) dX0_addToDigest_96 hR f_X0_11 hn hc4 (Or.inl ⟨rfl, rfl⟩) ?_
      refine wp_iload dX0_addToDigest_99 rfl ?_
      refine wr_aF (f := f) dX0_addToDigest_101 hR rfl hn hc4 hf9 ?_
      refine wp_iload dX0_addToDigest_102 rfl ?_
      refine wp_iload_n (i := 3) dX0_addToDigest_104 rfl rfl ?_
      refine wp_aload_n (i := 0) dX0_addToDigest_105 rfl rfl ?_
      refine wr_get (g := 1) (n := n) (a := c) (b := 0) (k := 6) dX0_addToDigest_106 hR f_X0_35 (vs1 hn hc4 (by decide)) (by decide) (by decide) ?_
      have hi9 : i < 6 := by
        rcases Nat.lt_or_ge i 6 with q | q
        · exact q
        · exact absurd (show nI 5 < nI i from nI_lt (by omega) (by omega)) c86
      refine wp_callV (N := mX1_tell) (as := [.int (nI i), .int x, .int (gV M 1 n c 0 6)]) dX0_addToDigest_109 l_X0_124 v_X1_tell rfl (hR.oo (vs2 hn hc4 hf9 (k := 0) (by decide)) (by decide)) rfl (Nat.le_of_ble_eq_true rfl) (s_heTell hR hn hc4 hf9 x (gV M 1 n c 0 6) hi9) (fun v hp9 hq => ?_)
      obtain ⟨rfl, rfl⟩ := hq
      refine wp_i2l dX0_addToDigest_112 ?_
      refine wp_ladd dX0_addToDigest_113 ?_
      refine wp_lstore dX0_addToDigest_114 (Nat.le_of_ble_eq_true rfl) ?_
      refine wp_iinc (v := nI (i + 1)) dX0_addToDigest_116 rfl (nI_1 _) ?_
      refine wp_goto (tgt := 83) dX0_addToDigest_119 (by decide) ?_
      exact ih (6 - (i + 1)) (by omega) (i + 1) rfl (by omega)
theorem w_ad_73 (hR : Rep hp M) (hn : n < 2) (hc4 : c < 4) : ∀ (m f : Nat), 12 - f = m → f ≤ 12 → ∀ (l7 : Option Value), WP L xs (d + 2) mX0_addToDigest 73 [some (.ref (xi 1 n c 0)), some (.long s0), none, some (.int x), some (.long (dg4 M n c x (dg2 M n c (dg1 M n c s0 7) cnt) f)), none, some (.int (nI f)), l7] [] hp (fun v hp' => retOk mX0_addToDigest.2.2.2 v ∧ hp' = hp ∧ v = some (.long (dgC M n c cnt x s0))) := by
  intro m
  induction m using Nat.strongRecOn with
  | ind m ih =>
    intro f hm hf0 l7
    subst hm
    refine wp_iload dX0_addToDigest_73 rfl ?_
    refine wp_bipush (v := nI 12) dX0_addToDigest_75 (by decide) ?_
    refine wp_icmp_ge (tgt := 128) dX0_addToDigest_77 (by decide) (fun c77 => ?_) (fun c77 => ?_)
    · skip
      have e9 : f = 12 := by
        rcases Nat.lt_or_ge f 12 with q | q
        · exact absurd (nI_lt q (by decide)) c77
        · omega
      subst e9
      refine wp_lload dX0_addToDigest_128 rfl ?_
      refine wp_ret (v := some (.long _)) dX0_addToDigest_130 rfl ?_
      exact ⟨trivial, rfl, rfl⟩
    · skip
      refine wp_iconst (v := 0) dX0_addToDigest_80 rfl ?_
      refine wp_istore dX0_addToDigest_81 (Nat.le_of_ble_eq_true rfl) ?_
      have hf9 : f < 12 := (nI_ltI (by omega) (by decide)).mp c77
      exact w_ad_83 hR hn hc4 hf9 (by
        refine wp_iinc (v := nI (f + 1)) dX0_addToDigest_122 rfl (nI_1 _) ?_
        refine wp_goto (tgt := 73) dX0_addToDigest_125 (by decide) ?_
        exact ih (12 - (f + 1)) (by omega) (f + 1) rfl (by omega) _) 6 0 rfl (by decide)
theorem w_ad_38 (hR : Rep hp M) (hn : n < 2) (hc4 : c < 4) (hcnt : gV M 1 n c 0 2 = nI cnt) (h12 : cnt ≤ 12) : ∀ (m i : Nat), cnt - i = m → i ≤ cnt → ∀ (l7 : Option Value), WP L xs (d + 2) mX0_addToDigest 38 [some (.ref (xi 1 n c 0)), some (.long s0), none, some (.int x), some (.long (dg2 M n c (dg1 M n c s0 7) i)), none, some (.int (nI i)), l7] [] hp (fun v hp' => retOk mX0_addToDigest.2.2.2 v ∧ hp' = hp ∧ v = some (.long (dgC M n c cnt x s0))) := by
  intro m
  induction m using Nat.strongRecOn with
  | ind m ih =>
    intro i hm hi0 l7
    subst hm
    refine wp_iload dX0_addToDigest_38 rfl ?_
    refine wp_aload_n (i := 0) dX0_addToDigest_40 rfl rfl ?_
    refine wr_get (g := 1) (n := n) (a := c) (b := 0) (k := 2) dX0_addToDigest_41 hR f_X0_52 (vs1 hn hc4 (by decide)) (by decide) (by decide) ?_
    refine wp_icmp_ge (tgt := 70) dX0_addToDigest_44 (by decide) (fun c44 => ?_) (fun c44 => ?_)
    · skip
      refine wp_iconst (v := 0) dX0_addToDigest_70 rfl ?_
      refine wp_istore dX0_addToDigest_71 (Nat.le_of_ble_eq_true rfl) ?_
      have e9 : i = cnt := by
        rcases Nat.lt_or_ge i cnt with q | q
        · exact absurd (by rw [hcnt]; exact nI_lt q (by omega)) c44
        · omega
      subst e9
      exact w_ad_73 hR hn hc4 12 0 rfl (by decide) _
    · skip
      have hil : i < cnt := by rw [hcnt] at c44; exact (nI_ltI (by omega) (by omega)).mp c44
      have hi9 : i < 12 := by omega
      refine wp_lload dX0_addToDigest_47 rfl ?_
      refine wp_ldc2 dX0_addToDigest_49 k_X0_119 ?_
      refine wp_lmul dX0_addToDigest_52 ?_
      refine wp_aload_n (i := 0) dX0_addToDigest_53 rfl rfl ?_
      refine wr_cliR (j := xi 3 n c 0) dX0_addToDigest_54 hR f_X0_17 hn hc4 (Or.inr (Or.inl ⟨rfl, rfl⟩)) ?_
      refine wp_iload dX0_addToDigest_57 rfl ?_
      refine wr_ordG (k := i) dX0_addToDigest_59 hR rfl (vs3 hn hc4 hi9) ?_
      refine wp_i2l dX0_addToDigest_60 ?_
      refine wp_ladd dX0_addToDigest_61 ?_
      refine wp_lstore dX0_addToDigest_62 (Nat.le_of_ble_eq_true rfl) ?_
      refine wp_iinc (v := nI (i + 1)) dX0_addToDigest_64 rfl (nI_1 _) ?_
      refine wp_goto (tgt := 38) dX0_addToDigest_67 (by decide) ?_
      exact ih (cnt - (i + 1)) (by omega) (i + 1) rfl (by omega) _
theorem w_ad_6 (hR : Rep hp M) (hn : n < 2) (hc4 : c < 4) (hcnt : gV M 1 n c 0 2 = nI cnt) (h12 : cnt ≤ 12) : ∀ (m i : Nat), 7 - i = m → i ≤ 7 → ∀ (l7 : Option Value), WP L xs (d + 2) mX0_addToDigest 6 [some (.ref (xi 1 n c 0)), some (.long s0), none, some (.int x), some (.long (dg1 M n c s0 i)), none, some (.int (nI i)), l7] [] hp (fun v hp' => retOk mX0_addToDigest.2.2.2 v ∧ hp' = hp ∧ v = some (.long (dgC M n c cnt x s0))) := by
  intro m
  induction m using Nat.strongRecOn with
  | ind m ih =>
    intro i hm hi0 l7
    subst hm
    refine wp_iload dX0_addToDigest_6 rfl ?_
    refine wp_bipush (v := nI 6) dX0_addToDigest_8 (by decide) ?_
    refine wp_icmp_gt (tgt := 35) dX0_addToDigest_10 (by decide) (fun c10 => ?_) (fun c10 => ?_)
    · skip
      refine wp_iconst (v := 0) dX0_addToDigest_35 rfl ?_
      refine wp_istore dX0_addToDigest_36 (Nat.le_of_ble_eq_true rfl) ?_
      have e9 : i = 7 := by
        have := (nI_ltI (show 6 < 2 ^ 31 by decide) (show i < 2 ^ 31 by omega)).mp c10
        omega
      subst e9
      exact w_ad_38 hR hn hc4 hcnt h12 cnt 0 rfl (Nat.zero_le _) _
    · skip
      refine wp_lload dX0_addToDigest_13 rfl ?_
      refine wp_ldc2 dX0_addToDigest_15 k_X0_119 ?_
      refine wp_lmul dX0_addToDigest_18 ?_
      refine wp_aload_n (i := 0) dX0_addToDigest_19 rfl rfl ?_
      refine wp_iload dX0_addToDigest_20 rfl ?_
      have hi9 : i < 7 := by
        rcases Nat.lt_or_ge i 7 with q | q
        · exact q
        · exact absurd (show nI 6 < nI i from nI_lt (by omega) (by omega)) c10
      refine wp_callV (N := mX0_tell) (as := [.int (nI i)]) dX0_addToDigest_22 l_X0_121 v_X0_tell rfl (hR.oo (vs1 hn hc4 (k := 2) (by decide)) (by decide)) rfl (Nat.le_of_ble_eq_true rfl) (s_clTell hR hn hc4 hi9) (fun v hp9 hq => ?_)
      obtain ⟨rfl, rfl⟩ := hq
      refine wp_i2l dX0_addToDigest_25 ?_
      refine wp_ladd dX0_addToDigest_26 ?_
      refine wp_lstore dX0_addToDigest_27 (Nat.le_of_ble_eq_true rfl) ?_
      refine wp_iinc (v := nI (i + 1)) dX0_addToDigest_29 rfl (nI_1 _) ?_
      refine wp_goto (tgt := 6) dX0_addToDigest_32 (by decide) ?_
      exact ih (7 - (i + 1)) (by omega) (i + 1) rfl (by omega) _
/-- a client's digest -/
theorem s_clDigest (hR : Rep hp M) (hn : n < 2) (hc4 : c < 4) (hcnt : gV M 1 n c 0 2 = nI cnt) (h12 : cnt ≤ 12) : WM L xs (d + 2) mX0_addToDigest [.ref (xi 1 n c 0), .long s0, .int x] hp (fun v hp' => hp' = hp ∧ v = some (.long (dgC M n c cnt x s0))) := by
  refine WM.of [some (.ref _), some (.long s0), none, some (.int x), none, none, none, none] (by decide) rfl (Nat.le_of_ble_eq_true rfl) ?_
  refine wp_lload_n (i := 1) dX0_addToDigest_0 rfl rfl ?_
  refine wp_lstore dX0_addToDigest_1 (Nat.le_of_ble_eq_true rfl) ?_
  refine wp_iconst (v := 0) dX0_addToDigest_3 rfl ?_
  refine wp_istore dX0_addToDigest_4 (Nat.le_of_ble_eq_true rfl) ?_
  exact w_ad_6 hR hn hc4 hcnt h12 7 0 rfl (by decide) _
theorem w_at_41 (hR : Rep hp M) (hn : n < 2) {u r : Nat} (hk9 : (clk + (u + 1)) % 9 < 9) (hr : r < (gT M 2 n ((clk + (u + 1)) % 9)).length) (kk : WP L xs (d + 2) mX2_addThingsToDigest 70 [some (.ref (xi 0 n 0 0)), some (.long s0), none, some (.long (dgR M n ((clk + (u + 1)) % 9) r (dgS M n ((clk + (u + 1)) % 9) (dgT M n clk s0 u) r) 4)), none, some (.int (nI (u + 1))), some (.ref (xt 2 n ((clk + (u + 1)) % 9))), some (.int (nI r)), some (.int (nI 4))] [] hp (fun v hp' => retOk mX2_addThingsToDigest.2.2.2 v ∧ hp' = hp ∧ v = some (.long (dgT M n clk s0 8)))) : ∀ (m i : Nat), 4 - i = m → i ≤ 4 → WP L xs (d + 2) mX2_addThingsToDigest 41 [some (.ref (xi 0 n 0 0)), some (.long s0), none, some (.long (dgR M n ((clk + (u + 1)) % 9) r (dgS M n ((clk + (u + 1)) % 9) (dgT M n clk s0 u) r) i)), none, some (.int (nI (u + 1))), some (.ref (xt 2 n ((clk + (u + 1)) % 9))), some (.int (nI r)), some (.int (nI i))] [] hp (fun v hp' => retOk mX2_addThingsToDigest.2.2.2 v ∧ hp' = hp ∧ v = some (.long (dgT M n clk s0 8))) := by
  intro m
  induction m using Nat.strongRecOn with
  | ind m ih =>
    intro i hm hi0
    subst hm
    refine wp_iload dX2_addThingsToDigest_41 rfl ?_
    refine wp_iconst (v := 3) dX2_addThingsToDigest_43 rfl ?_
    refine wp_icmp_gt (tgt := 70) dX2_addThingsToDigest_44 (by decide) (fun c44 => ?_) (fun c44 => ?_)
    · skip
      have e9 : i = 4 := by
        have := (nI_ltI (show 3 < 2 ^ 31 by decide) (show i < 2 ^ 31 by omega)).mp c44
        omega
      subst e9
      exact kk
    · skip
      refine wp_lload_n (i := 3) dX2_addThingsToDigest_47 rfl rfl ?_
      refine wp_ldc2 dX2_addThingsToDigest_48 k_X2_72 ?_
      refine wp_lmul dX2_addThingsToDigest_51 ?_
      refine wp_aload dX2_addThingsToDigest_52 rfl ?_
      refine wp_iload dX2_addThingsToDigest_54 rfl ?_
      refine wp_iload dX2_addThingsToDigest_56 rfl ?_
      have hi9 : i < 4 := by
        rcases Nat.lt_or_ge i 4 with q | q
        · exact q
        · exact absurd (show nI 3 < nI i from nI_lt (by omega) (by omega)) c44
      refine wp_callV (N := mX4_get) (as := [.int (nI r), .int (nI i)]) dX2_addThingsToDigest_58 l_X2_69 v_X4_get rfl (hR.oT (vt2 hn hk9)) rfl (Nat.le_of_ble_eq_true rfl) (s_get hR (vt2 hn hk9) hr (c := i) (by show i < 8; omega)) (fun v hp9 hq => ?_)
      obtain ⟨rfl, rfl⟩ := hq
      refine wp_i2l dX2_addThingsToDigest_61 ?_
      refine wp_ladd dX2_addThingsToDigest_62 ?_
      refine wp_lstore_n (i := 3) dX2_addThingsToDigest_63 rfl (Nat.le_of_ble_eq_true rfl) ?_
      refine wp_iinc (v := nI (i + 1)) dX2_addThingsToDigest_64 rfl (nI_1 _) ?_
      refine wp_goto (tgt := 41) dX2_addThingsToDigest_67 (by decide) ?_
      exact ih (4 - (i + 1)) (by omega) (i + 1) rfl (by omega)
theorem w_at_28 (hR : Rep hp M) (hn : n < 2) {u : Nat} (hk9 : (clk + (u + 1)) % 9 < 9) (kk : ∀ (l7 l8 : Option Value), WP L xs (d + 2) mX2_addThingsToDigest 76 [some (.ref (xi 0 n 0 0)), some (.long s0), none, some (.long (dgS M n ((clk + (u + 1)) % 9) (dgT M n clk s0 u) (gT M 2 n ((clk + (u + 1)) % 9)).length)), none, some (.int (nI (u + 1))), some (.ref (xt 2 n ((clk + (u + 1)) % 9))), l7, l8] [] hp (fun v hp' => retOk mX2_addThingsToDigest.2.2.2 v ∧ hp' = hp ∧ v = some (.long (dgT M n clk s0 8)))) : ∀ (m r : Nat), (gT M 2 n ((clk + (u + 1)) % 9)).length - r = m → r ≤ (gT M 2 n ((clk + (u + 1)) % 9)).length → ∀ (l8 : Option Value), WP L xs (d + 2) mX2_addThingsToDigest 28 [some (.ref (xi 0 n 0 0)), some (.long s0), none, some (.long (dgS M n ((clk + (u + 1)) % 9) (dgT M n clk s0 u) r)), none, some (.int (nI (u + 1))), some (.ref (xt 2 n ((clk + (u + 1)) % 9))), some (.int (nI r)), l8] [] hp (fun v hp' => retOk mX2_addThingsToDigest.2.2.2 v ∧ hp' = hp ∧ v = some (.long (dgT M n clk s0 8))) := by
  have hlen : (gT M 2 n ((clk + (u + 1)) % 9)).length < 2 ^ 31 := by have := (hR.T (vt2 hn hk9)).2.2.2.2.2.2.2; omega
  intro m
  induction m using Nat.strongRecOn with
  | ind m ih =>
    intro r hm hr0 l8
    subst hm
    refine wp_iload dX2_addThingsToDigest_28 rfl ?_
    refine wp_aload dX2_addThingsToDigest_30 rfl ?_
    refine wr_rows dX2_addThingsToDigest_32 hR f_X2_59 (vt2 hn hk9) ?_
    refine wp_icmp_ge (tgt := 76) dX2_addThingsToDigest_35 (by decide) (fun c35 => ?_) (fun c35 => ?_)
    · skip
      have e9 : r = (gT M 2 n ((clk + (u + 1)) % 9)).length := by
        rcases Nat.lt_or_ge r (gT M 2 n ((clk + (u + 1)) % 9)).length with q | q
        · exact absurd (nI_lt q hlen) c35
        · omega
      rw [e9]
      exact kk _ _
    · skip
      refine wp_iconst (v := 0) dX2_addThingsToDigest_38 rfl ?_
      refine wp_istore dX2_addThingsToDigest_39 (Nat.le_of_ble_eq_true rfl) ?_
      have hr : r < (gT M 2 n ((clk + (u + 1)) % 9)).length := (nI_ltI (by omega) hlen).mp c35
      exact w_at_41 hR hn hk9 hr (by
        refine wp_iinc (v := nI (r + 1)) dX2_addThingsToDigest_70 rfl (nI_1 _) ?_
        refine wp_goto (tgt := 28) dX2_addThingsToDigest_73 (by decide) ?_
        exact ih (_ - (r + 1)) (by omega) (r + 1) rfl (by omega) _) 4 0 rfl (by decide)
theorem w_at_5 (hR : Rep hp M) (hn : n < 2) (hclk : gV M 0 n 0 0 0 = nI clk) (hb : clk < 1000) : ∀ (m u : Nat), 8 - u = m → u ≤ 8 → ∀ (l6 l7 l8 : Option Value), WP L xs (d + 2) mX2_addThingsToDigest 5 [some (.ref (xi 0 n 0 0)), some (.long s0), none, some (.long (dgT M n clk s0 u)), none, some (.int (nI (u + 1))), l6, l7, l8] [] hp (fun v hp' => retOk mX2_addThingsToDigest.2.2.2 v ∧ hp' = hp ∧ v = some (.long (dgT M n clk s0 8))) := by
  intro m
  induction m using Nat.strongRecOn with
  | ind m ih =>
    intro u hm hu0 l6 l7 l8
    have hk9 : (clk + (u + 1)) % 9 < 9 := Nat.mod_lt _ (by decide)
    subst hm
    refine wp_iload dX2_addThingsToDigest_5 rfl ?_
    refine wp_bipush (v := nI 8) dX2_addThingsToDigest_7 (by decide) ?_
    refine wp_icmp_gt (tgt := 82) dX2_addThingsToDigest_9 (by decide) (fun c9 => ?_) (fun c9 => ?_)
    · skip
      have e9 : u = 8 := by
        have := (nI_ltI (show 8 < 2 ^ 31 by decide) (show u + 1 < 2 ^ 31 by omega)).mp c9
        omega
      subst e9
      refine wp_lload_n (i := 3) dX2_addThingsToDigest_82 rfl rfl ?_
      refine wp_ret (v := some (.long _)) dX2_addThingsToDigest_83 rfl ?_
      exact ⟨trivial, rfl, rfl⟩
    · skip
      refine wp_aload_n (i := 0) dX2_addThingsToDigest_12 rfl rfl ?_
      refine wp_aload_n (i := 0) dX2_addThingsToDigest_13 rfl rfl ?_
      refine wr_get (g := 0) (n := n) (a := 0) (b := 0) (k := 0) dX2_addThingsToDigest_14 hR f_X2_62 (vs0 hn (by decide)) (by decide) (by decide) ?_
      refine wp_iload dX2_addThingsToDigest_17 rfl ?_
      refine wp_iadd dX2_addThingsToDigest_19 ?_
      have hu8 : u < 8 := by
        rcases Nat.lt_or_ge u 8 with q | q
        · exact q
        · exact absurd (show nI 8 < nI (u + 1) from nI_lt (by omega) (by omega)) c9
      rw [hclk, nI_add]
      refine wp_callV (N := mX2_slotAt) (as := [.int (nI (clk + (u + 1)))]) dX2_addThingsToDigest_20 l_X2_65 v_X2_slotAt rfl (hR.oo (vs0 hn (k := 0) (by decide)) (by decide)) rfl (by decide) (s_slotAt hR hn (by omega)) (fun v hp6 hq => ?_)
      obtain ⟨rfl, rfl⟩ := hq
      refine wp_astore dX2_addThingsToDigest_23 (Nat.le_of_ble_eq_true rfl) ?_
      refine wp_iconst (v := 0) dX2_addThingsToDigest_25 rfl ?_
      refine wp_istore dX2_addThingsToDigest_26 (Nat.le_of_ble_eq_true rfl) ?_
      exact w_at_28 hR hn hk9 (fun l7 l8 => (by
        refine wp_iinc (v := nI (u + 1 + 1)) dX2_addThingsToDigest_76 rfl (nI_1 _) ?_
        refine wp_goto (tgt := 5) dX2_addThingsToDigest_79 (by decide) ?_
        exact ih (8 - (u + 1)) (by omega) (u + 1) rfl (by omega) _ _ _)) _ 0 rfl (Nat.zero_le _) _
/-- the things' digest -/
theorem s_thDigest (hR : Rep hp M) (hn : n < 2) (hclk : gV M 0 n 0 0 0 = nI clk) (hb : clk < 1000) : WM L xs (d + 2) mX2_addThingsToDigest [.ref (xi 0 n 0 0), .long s0] hp (fun v hp' => hp' = hp ∧ v = some (.long (dgT M n clk s0 8))) := by
  refine WM.of [some (.ref _), some (.long s0), none, none, none, none, none, none, none] (by decide) rfl (Nat.le_of_ble_eq_true rfl) ?_
  refine wp_lload_n (i := 1) dX2_addThingsToDigest_0 rfl rfl ?_
  refine wp_lstore_n (i := 3) dX2_addThingsToDigest_1 rfl (Nat.le_of_ble_eq_true rfl) ?_
  refine wp_iconst (v := 1) dX2_addThingsToDigest_2 rfl ?_
  refine wp_istore dX2_addThingsToDigest_3 (Nat.le_of_ble_eq_true rfl) ?_
  exact w_at_5 hR hn hclk hb 8 0 rfl (by decide) _ _ _
end DIGEST
end
section
/-! ===== copies: one net as the other ===== -/
/-- numbers P and tables Q of net n are now as those of net n' -/
def CP (n n' : Nat) (P : Nat → Nat → Nat → Nat → Prop) (Q : Nat → Nat → Prop) (M M' : MS) : Prop :=
  (∀ g a b k, P g a b k → gV M' g n a b k = gV M g n' a b k) ∧ (∀ g m a b k, ¬ (m = n ∧ P g a b k) → gV M' g m a b k = gV M g m a b k) ∧
  (∀ y a, Q y a → gT M' y n a = gT M y n' a) ∧ (∀ y m a, ¬ (m = n ∧ Q y a) → gT M' y m a = gT M y m a ∧ gP M' y m a = gP M y m a) ∧ (∀ i, gX M' i = gX M i) ∧ ∀ zB tB, RI zB tB M → RI zB tB M'
theorem CP.rfl' (n n' : Nat) (M : MS) {P : Nat → Nat → Nat → Nat → Prop} {Q : Nat → Nat → Prop} (hP : ∀ g a b k, ¬ P g a b k) (hQ : ∀ y a, ¬ Q y a) : CP n n' P Q M M :=
  ⟨fun g a b k q => absurd q (hP g a b k), fun _ _ _ _ _ _ => rfl, fun y a q => absurd q (hQ y a), fun _ _ _ _ => ⟨rfl, rfl⟩, fun _ => rfl, fun _ _ h => h⟩
theorem CP.trans {n n' : Nat} {P P' P2 : Nat → Nat → Nat → Nat → Prop} {Q Q' Q2 : Nat → Nat → Prop} {M M' M'' : MS} (hne : n' ≠ n) (h : CP n n' P Q M M') (h' : CP n n' P' Q' M' M'') (hP : ∀ g a b k, P2 g a b k ↔ P g a b k ∨ P' g a b k) (hQ : ∀ y a, Q2 y a ↔ Q y a ∨ Q' y a) : CP n n' P2 Q2 M M'' := by
  obtain ⟨a1, a2, a3, a4, a5, a6⟩ := h
  obtain ⟨b1, b2, b3, b4, b5, b6⟩ := h'
  refine ⟨fun g a b k q => ?_, fun g m a b k q => ?_, fun y a q => ?_, fun y m a q => ?_, fun i => (b5 i).trans (a5 i), fun z t hh => b6 z t (a6 z t hh)⟩
  · by_cases hp' : P' g a b k
    · rw [b1 g a b k hp', a2 g n' a b k (fun p => hne p.1)]
    · rw [b2 g n a b k (fun p => hp' p.2), a1 g a b k (((hP g a b k).mp q).resolve_right hp')]
  · rw [b2 g m a b k (fun p => q ⟨p.1, (hP g a b k).mpr (Or.inr p.2)⟩), a2 g m a b k (fun p => q ⟨p.1, (hP g a b k).mpr (Or.inl p.2)⟩)]
  · by_cases hp' : Q' y a
    · rw [b3 y a hp', (a4 y n' a (fun p => hne p.1)).1]
    · rw [(b4 y n a (fun p => hp' p.2)).1, a3 y a (((hQ y a).mp q).resolve_right hp')]
  · have h1 := b4 y m a (fun p => q ⟨p.1, (hQ y a).mpr (Or.inr p.2)⟩)
    have h2 := a4 y m a (fun p => q ⟨p.1, (hQ y a).mpr (Or.inl p.2)⟩)
    exact ⟨h1.1.trans h2.1, h1.2.trans h2.2⟩
/-- one number -/
theorem CP.one {n n' : Nat} (M : MS) (g a b k : Nat) : CP n n' (fun g' a' b' k' => g' = g ∧ a' = a ∧ b' = b ∧ k' = k) (fun _ _ => False) M (sV M g n a b k (gV M g n' a b k)) :=
  ⟨fun g' a' b' k' q => by obtain ⟨rfl, rfl, rfl, rfl⟩ := q; exact sV_self _ _ _ _ _ _ _, fun g' m a' b' k' q => sV_ne (fun p => q ⟨p.2.1, p.1, p.2.2.1, p.2.2.2.1, p.2.2.2.2⟩), fun _ _ q => q.elim, fun _ _ _ _ => ⟨rfl, rfl⟩, fun _ => rfl, fun z t h => h.of rfl rfl (fun _ _ _ => rfl)⟩
/-- one table -/
theorem CP.tab {n n' : Nat} {hp : AH} {M : MS} (hR : Rep hp M) {y a : Nat} (ht : vt y n a) (ht' : vt y n' a) : CP n n' (fun _ _ _ _ => False) (fun y' a' => y' = y ∧ a' = a) M (sW M (cZ M y n a n' a) (cQ M y n a n' a) y n a (gT M y n' a) (cP M y n a n' a)) :=
  ⟨fun _ _ _ _ q => q.elim, fun _ _ _ _ _ _ => rfl, fun y' a' q => by obtain ⟨rfl, rfl⟩ := q; exact gT_sW _ _ _ _ _ _ _ _, fun y' m a' q => ⟨gT_sWn (fun p => q ⟨p.2.1, p.1, p.2.2⟩), gP_sWn (fun p => q ⟨p.2.1, p.1, p.2.2⟩)⟩, fun _ => rfl, fun z t h => h.copy hR ht ht'⟩
section COPY
variable {L : Nat} {xs : Nat → Int32} {d : Nat} {hp : AH} {M : MS} {n n' c f : Nat}
theorem s_heCopy (hR : Rep hp M) (hn : n < 2) (hn' : n' < 2) (hne : ¬ n' = n) (hc : c < 4) (hf : f < 12) : WM L xs d mX1_copyFrom [.ref (xi 2 n c f), .ref (xi 2 n' c f)] hp (fun v hp' => v = none ∧ ∃ M', Rep hp' M' ∧ CP n n' (fun g a b k => g = 2 ∧ a = c ∧ b = f ∧ k < 8) (fun _ _ => False) M M') := by
  refine WM.of [some (.ref _), some (.ref _)] (by decide) rfl (Nat.le_of_ble_eq_true rfl) ?_
  refine wp_aload_n (i := 0) dX1_copyFrom_0 rfl rfl ?_
  refine wp_aload_n (i := 1) dX1_copyFrom_1 rfl rfl ?_
  refine wr_get (g := 2) (n := n') (a := c) (b := f) (k := 0) dX1_copyFrom_2 hR f_X1_15 (vs2 hn' hc hf (by decide)) (by decide) (by decide) ?_
  refine wr_put (g := 2) (n := n) (a := c) (b := f) (k := 0) dX1_copyFrom_5 hR (p_X1_15 rfl) (vs2 hn hc hf (by decide)) (by decide) (by decide) (okB rfl (hR.bool (vs2 hn' hc hf (by decide)) rfl (by decide))) (fun hp2 hR1 => ?_)
  refine wp_aload_n (i := 0) dX1_copyFrom_8 rfl rfl ?_
  refine wp_aload_n (i := 1) dX1_copyFrom_9 rfl rfl ?_
  refine wr_get (g := 2) (n := n') (a := c) (b := f) (k := 1) dX1_copyFrom_10 hR1 f_X1_22 (vs2 hn' hc hf (by decide)) (by decide) (by decide) ?_
  refine wr_put (g := 2) (n := n) (a := c) (b := f) (k := 1) dX1_copyFrom_13 hR1 (p_X1_22 rfl) (vs2 hn hc hf (by decide)) (by decide) (by decide) (okI rfl) (fun hp4 hR3 => ?_)
  refine wp_aload_n (i := 0) dX1_copyFrom_16 rfl rfl ?_
  refine wp_aload_n (i := 1) dX1_copyFrom_17 rfl rfl ?_
  refine wr_get (g := 2) (n := n') (a := c) (b := f) (k := 2) dX1_copyFrom_18 hR3 f_X1_28 (vs2 hn' hc hf (by decide)) (by decide) (by decide) ?_
  refine wr_put (g := 2) (n := n) (a := c) (b := f) (k := 2) dX1_copyFrom_21 hR3 (p_X1_28 rfl) (vs2 hn hc hf (by decide)) (by decide) (by decide) (okI rfl) (fun hp6 hR5 => ?_)
  refine wp_aload_n (i := 0) dX1_copyFrom_24 rfl rfl ?_
  refine wp_aload_n (i := 1) dX1_copyFrom_25 rfl rfl ?_
  refine wr_get (g := 2) (n := n') (a := c) (b := f) (k := 3) dX1_copyFrom_26 hR5 f_X1_9 (vs2 hn' hc hf (by decide)) (by decide) (by decide) ?_
  refine wr_put (g := 2) (n := n) (a := c) (b := f) (k := 3) dX1_copyFrom_29 hR5 (p_X1_9 rfl) (vs2 hn hc hf (by decide)) (by decide) (by decide) (okI rfl) (fun hp8 hR7 => ?_)
  refine wp_aload_n (i := 0) dX1_copyFrom_32 rfl rfl ?_
  refine wp_aload_n (i := 1) dX1_copyFrom_33 rfl rfl ?_
  refine wr_get (g := 2) (n := n') (a := c) (b := f) (k := 4) dX1_copyFrom_34 hR7 f_X1_19 (vs2 hn' hc hf (by decide)) (by decide) (by decide) ?_
  refine wr_put (g := 2) (n := n) (a := c) (b := f) (k := 4) dX1_copyFrom_37 hR7 (p_X1_19 rfl) (vs2 hn hc hf (by decide)) (by decide) (by decide) (okB rfl (hR7.bool (vs2 hn' hc hf (by decide)) rfl (by decide))) (fun hp10 hR9 => ?_)
  refine wp_aload_n (i := 0) dX1_copyFrom_40 rfl rfl ?_
  refine wp_aload_n (i := 1) dX1_copyFrom_41 rfl rfl ?_
  refine wr_get (g := 2) (n := n') (a := c) (b := f) (k := 5) dX1_copyFrom_42 hR9 f_X1_25 (vs2 hn' hc hf (by decide)) (by decide) (by decide) ?_
  refine wr_put (g := 2) (n := n) (a := c) (b := f) (k := 5) dX1_copyFrom_45 hR9 (p_X1_25 rfl) (vs2 hn hc hf (by decide)) (by decide) (by decide) (okI rfl) (fun hp12 hR11 => ?_)
  refine wp_aload_n (i := 0) dX1_copyFrom_48 rfl rfl ?_
  refine wp_aload_n (i := 1) dX1_copyFrom_49 rfl rfl ?_
  refine wr_get (g := 2) (n := n') (a := c) (b := f) (k := 6) dX1_copyFrom_50 hR11 f_X1_38 (vs2 hn' hc hf (by decide)) (by decide) (by decide) ?_
  refine wr_put (g := 2) (n := n) (a := c) (b := f) (k := 6) dX1_copyFrom_53 hR11 (p_X1_38 rfl) (vs2 hn hc hf (by decide)) (by decide) (by decide) (okB rfl (hR11.bool (vs2 hn' hc hf (by decide)) rfl (by decide))) (fun hp14 hR13 => ?_)
  refine wp_aload_n (i := 0) dX1_copyFrom_56 rfl rfl ?_
  refine wp_aload_n (i := 1) dX1_copyFrom_57 rfl rfl ?_
  refine wr_get (g := 2) (n := n') (a := c) (b := f) (k := 7) dX1_copyFrom_58 hR13 f_X1_31 (vs2 hn' hc hf (by decide)) (by decide) (by decide) ?_
  refine wr_put (g := 2) (n := n) (a := c) (b := f) (k := 7) dX1_copyFrom_61 hR13 (p_X1_31 rfl) (vs2 hn hc hf (by decide)) (by decide) (by decide) (okB rfl (hR13.bool (vs2 hn' hc hf (by decide)) rfl (by decide))) (fun hp16 hR15 => ?_)
  refine wp_ret (v := none) dX1_copyFrom_64 rfl ?_
  refine ⟨trivial, rfl, _, hR15, ?_⟩
  refine ⟨fun g a b k q => ?_, fun g m a b k q => ?_, fun _ _ q => q.elim, fun _ _ _ _ => ⟨rfl, rfl⟩, fun _ => rfl, fun z t h => h.of rfl rfl (fun _ _ _ => rfl)⟩
  · obtain ⟨rfl, rfl, rfl, q⟩ := q
    rcases (show k = 0 ∨ k = 1 ∨ k = 2 ∨ k = 3 ∨ k = 4 ∨ k = 5 ∨ k = 6 ∨ k = 7 by omega) with rfl | rfl | rfl | rfl | rfl | rfl | rfl | rfl <;> simp [gV_sV, hne]
  · rw [sV_ne (by omega), sV_ne (by omega), sV_ne (by omega), sV_ne (by omega), sV_ne (by omega), sV_ne (by omega), sV_ne (by omega), sV_ne (by omega)]
end COPY
end
section
/-! ===== copies, II ===== -/
def PS (f : Nat) : Nat → Nat → Nat → Nat → Prop := fun g a b k => a = f ∧ b = 0 ∧ ((g = 4 ∧ (k < 2 ∨ k = 4)) ∨ (g = 5 ∧ k < 4))
def PC (c : Nat) : Nat → Nat → Nat → Nat → Prop := fun g a b k => a = c ∧ ((g = 2 ∧ b < 12 ∧ k < 8) ∨ (g = 3 ∧ b = 0 ∧ k < 12) ∨ (g = 1 ∧ b = 0 ∧ (k = 2 ∨ (4 ≤ k ∧ k < 12))))
section COPY2
variable {L : Nat} {xs : Nat → Int32} {d : Nat} {hp : AH} {M : MS} {n n' c f : Nat}
theorem w_shc_18 (hn : n < 2) (hn' : n' < 2) (hne : n' ≠ n) (hf : f < 12) {M0 : MS} : ∀ (m i : Nat), 4 - i = m → i ≤ 4 → ∀ (hp : AH) (M : MS), Rep hp M → CP n n' (fun g a b k => a = f ∧ b = 0 ∧ ((g = 4 ∧ k < 2) ∨ (g = 5 ∧ k < i))) (fun _ _ => False) M0 M → WP L xs (d + 2) mX3_copyFrom 18 [some (.ref (xi 4 n f 0)), some (.ref (xi 4 n' f 0)), some (.int (nI i))] [] hp (fun v hp' => retOk mX3_copyFrom.2.2.2 v ∧ v = none ∧ ∃ M', Rep hp' M' ∧ CP n n' (PS f) (fun y a => y = 1 ∧ a = f) M0 M') := by
  intro m
  induction m using Nat.strongRecOn with
  | ind m ih =>
    intro i hm hi0 hp M hR hM
    subst hm
    refine wp_iload_n (i := 2) dX3_copyFrom_18 rfl rfl ?_
    refine wp_iconst (v := 4) dX3_copyFrom_19 rfl ?_
    refine wp_icmp_ge (tgt := 41) dX3_copyFrom_20 (by decide) (fun c20 => ?_) (fun c20 => ?_)
    · skip
      refine wp_aload_n (i := 0) dX3_copyFrom_41 rfl rfl ?_
      refine wr_sheR (j := xt 1 n f) dX3_copyFrom_42 hR f_X3_20 hn hf (Or.inr ⟨rfl, rfl⟩) ?_
      refine wp_aload_n (i := 1) dX3_copyFrom_45 rfl rfl ?_
      refine wr_sheR (j := xt 1 n' f) dX3_copyFrom_46 hR f_X3_20 hn' hf (Or.inr ⟨rfl, rfl⟩) ?_
      refine wp_callV (N := mX4_copyFrom) (as := [.ref (xt 1 n' f)]) dX3_copyFrom_49 l_X3_54 v_X4_copyFrom rfl (hR.oT (vt1 hn hf)) rfl (by decide) (s_tabCopy hR (vt1 hn hf) (vt1 hn' hf) (fun q => hne q.1)) (fun v hp8 hq => ?_)
      obtain ⟨rfl, hR8⟩ := hq
      have hT8 := CP.tab (n := n) (n' := n') hR (vt1 hn hf) (vt1 hn' hf)
      refine wp_aload_n (i := 0) dX3_copyFrom_52 rfl rfl ?_
      refine wp_aload_n (i := 1) dX3_copyFrom_53 rfl rfl ?_
      refine wr_get (g := 4) (n := n') (a := f) (b := 0) (k := 4) dX3_copyFrom_54 hR8 f_X3_58 (vs4 hn' hf (by decide)) (by decide) (by decide) ?_
      refine wr_put (g := 4) (n := n) (a := f) (b := 0) (k := 4) dX3_copyFrom_57 hR8 (p_X3_58 rfl) (vs4 hn hf (by decide)) (by decide) (by decide) (okB rfl (hR8.bool (vs4 hn' hf (by decide)) rfl (by decide))) (fun hp2 hR1 => ?_)
      refine wp_ret (v := none) dX3_copyFrom_60 rfl ?_
      have e9 : i = 4 := by
        rcases Nat.lt_or_ge i 4 with q | q
        · exact absurd (nI_lt q (by decide)) c20
        · omega
      subst e9
      refine ⟨trivial, rfl, _, hR1, ?_⟩
      exact (hM.trans (P2 := fun g a b k => a = f ∧ b = 0 ∧ ((g = 4 ∧ k < 2) ∨ (g = 5 ∧ k < 4))) (Q2 := fun y a => y = 1 ∧ a = f) hne hT8 (fun g a b k => by simp) (fun y a => by simp)).trans hne (CP.one _ 4 f 0 4) (fun g a b k => by unfold PS; omega) (fun y a => by simp)
    · skip
      have hi9 : i < 4 := (nI_ltI (by omega) (by decide)).mp c20
      refine wp_aload_n (i := 0) dX3_copyFrom_23 rfl rfl ?_
      refine wr_sheR (j := xi 5 n f 0) dX3_copyFrom_24 hR f_X3_9 hn hf (Or.inl ⟨rfl, rfl⟩) ?_
      refine wp_iload_n (i := 2) dX3_copyFrom_27 rfl rfl ?_
      refine wp_aload_n (i := 1) dX3_copyFrom_28 rfl rfl ?_
      refine wr_sheR (j := xi 5 n' f 0) dX3_copyFrom_29 hR f_X3_9 hn' hf (Or.inl ⟨rfl, rfl⟩) ?_
      refine wp_iload_n (i := 2) dX3_copyFrom_32 rfl rfl ?_
      refine wr_untG (k := i) dX3_copyFrom_33 hR rfl (vs5 hn' hf hi9) ?_
      refine wr_untP (k := i) dX3_copyFrom_34 hR rfl (vs5 hn hf hi9) (fun hp4 hR3 => ?_)
      refine wp_iinc (v := nI (i + 1)) dX3_copyFrom_35 rfl (nI_1 _) ?_
      refine wp_goto (tgt := 18) dX3_copyFrom_38 (by decide) ?_
      exact ih (4 - (i + 1)) (by omega) (i + 1) rfl (by omega) _ _ hR3 (hM.trans hne (CP.one M 5 f 0 i) (fun g a b k => by omega) (fun y a => by simp))
theorem s_shCopy (hR : Rep hp M) (hn : n < 2) (hn' : n' < 2) (hne : n' ≠ n) (hf : f < 12) : WM L xs (d + 2) mX3_copyFrom [.ref (xi 4 n f 0), .ref (xi 4 n' f 0)] hp (fun v hp' => v = none ∧ ∃ M', Rep hp' M' ∧ CP n n' (PS f) (fun y a => y = 1 ∧ a = f) M M') := by
  refine WM.of [some (.ref _), some (.ref _), none] (by decide) rfl (Nat.le_of_ble_eq_true rfl) ?_
  refine wp_aload_n (i := 0) dX3_copyFrom_0 rfl rfl ?_
  refine wp_aload_n (i := 1) dX3_copyFrom_1 rfl rfl ?_
  refine wr_get (g := 4) (n := n') (a := f) (b := 0) (k := 0) dX3_copyFrom_2 hR f_X3_40 (vs4 hn' hf (by decide)) (by decide) (by decide) ?_
  refine wr_put (g := 4) (n := n) (a := f) (b := 0) (k := 0) dX3_copyFrom_5 hR (p_X3_40 rfl) (vs4 hn hf (by decide)) (by decide) (by decide) (okI rfl) (fun hp2 hR1 => ?_)
  refine wp_aload_n (i := 0) dX3_copyFrom_8 rfl rfl ?_
  refine wp_aload_n (i := 1) dX3_copyFrom_9 rfl rfl ?_
  refine wr_get (g := 4) (n := n') (a := f) (b := 0) (k := 1) dX3_copyFrom_10 hR1 f_X3_44 (vs4 hn' hf (by decide)) (by decide) (by decide) ?_
  refine wr_put (g := 4) (n := n) (a := f) (b := 0) (k := 1) dX3_copyFrom_13 hR1 (p_X3_44 rfl) (vs4 hn hf (by decide)) (by decide) (by decide) (okI rfl) (fun hp4 hR3 => ?_)
  refine wp_iconst (v := 0) dX3_copyFrom_16 rfl ?_
  refine wp_istore_n (i := 2) dX3_copyFrom_17 rfl (Nat.le_of_ble_eq_true rfl) ?_
  exact w_shc_18 hn hn' hne hf 4 0 rfl (by decide) _ _ hR3 ((CP.one M 4 f 0 0).trans hne (CP.one _ 4 f 0 1) (fun g a b k => by omega) (fun y a => by simp))
theorem w_clc_2 (hn : n < 2) (hn' : n' < 2) (hne : n' ≠ n) (hc : c < 4) {M0 : MS} : ∀ (m i : Nat), 12 - i = m → i ≤ 12 → ∀ (hp : AH) (M : MS), Rep hp M → CP n n' (fun g a b k => a = c ∧ ((g = 2 ∧ b < i ∧ k < 8) ∨ (g = 3 ∧ b = 0 ∧ k < i))) (fun _ _ => False) M0 M → WP L xs (d + 2) mX0_copyFrom 2 [some (.ref (xi 1 n c 0)), some (.ref (xi 1 n' c 0)), some (.int (nI i))] [] hp (fun v hp' => retOk mX0_copyFrom.2.2.2 v ∧ v = none ∧ ∃ M', Rep hp' M' ∧ CP n n' (PC c) (fun y a => y = 0 ∧ a = c) M0 M') := by
  intro m
  induction m using Nat.strongRecOn with
  | ind m ih =>
    intro i hm hi0 hp M hR hM
    subst hm
    refine wp_iload_n (i := 2) dX0_copyFrom_2 rfl rfl ?_
    refine wp_bipush (v := nI 12) dX0_copyFrom_3 (by decide) ?_
    refine wp_icmp_ge (tgt := 41) dX0_copyFrom_5 (by decide) (fun c5 => ?_) (fun c5 => ?_)
    · skip
      refine wp_aload_n (i := 0) dX0_copyFrom_41 rfl rfl ?_
      refine wp_aload_n (i := 1) dX0_copyFrom_42 rfl rfl ?_
      refine wr_get (g := 1) (n := n') (a := c) (b := 0) (k := 2) dX0_copyFrom_43 hR f_X0_52 (vs1 hn' hc (by decide)) (by decide) (by decide) ?_
      refine wr_put (g := 1) (n := n) (a := c) (b := 0) (k := 2) dX0_copyFrom_46 hR (p_X0_52 rfl) (vs1 hn hc (by decide)) (by decide) (by decide) (okI rfl) (fun hp2 hR1 => ?_)
      refine wp_aload_n (i := 0) dX0_copyFrom_49 rfl rfl ?_
      refine wr_cliR (j := xt 0 n c) dX0_copyFrom_50 hR1 f_X0_26 hn hc (Or.inr (Or.inr ⟨rfl, rfl⟩)) ?_
      refine wp_aload_n (i := 1) dX0_copyFrom_53 rfl rfl ?_
      refine wr_cliR (j := xt 0 n' c) dX0_copyFrom_54 hR1 f_X0_26 hn' hc (Or.inr (Or.inr ⟨rfl, rfl⟩)) ?_
      refine wp_callV (N := mX4_copyFrom) (as := [.ref (xt 0 n' c)]) dX0_copyFrom_57 l_X0_131 v_X4_copyFrom rfl (hR1.oT (vt0 hn hc)) rfl (by decide) (s_tabCopy hR1 (vt0 hn hc) (vt0 hn' hc) (fun q => hne q.1)) (fun v hp8 hq => ?_)
      obtain ⟨rfl, hR8⟩ := hq
      have hT8 := CP.tab (n := n) (n' := n') hR1 (vt0 hn hc) (vt0 hn' hc)
      refine wp_aload_n (i := 0) dX0_copyFrom_60 rfl rfl ?_
      refine wp_aload_n (i := 1) dX0_copyFrom_61 rfl rfl ?_
      refine wr_get (g := 1) (n := n') (a := c) (b := 0) (k := 4) dX0_copyFrom_62 hR8 f_X0_30 (vs1 hn' hc (by decide)) (by decide) (by decide) ?_
      refine wr_put (g := 1) (n := n) (a := c) (b := 0) (k := 4) dX0_copyFrom_65 hR8 (p_X0_30 rfl) (vs1 hn hc (by decide)) (by decide) (by decide) (okI rfl) (fun hp4 hR3 => ?_)
      refine wp_aload_n (i := 0) dX0_copyFrom_68 rfl rfl ?_
      refine wp_aload_n (i := 1) dX0_copyFrom_69 rfl rfl ?_
      refine wr_get (g := 1) (n := n') (a := c) (b := 0) (k := 5) dX0_copyFrom_70 hR3 f_X0_81 (vs1 hn' hc (by decide)) (by decide) (by decide) ?_
      refine wr_put (g := 1) (n := n) (a := c) (b := 0) (k := 5) dX0_copyFrom_73 hR3 (p_X0_81 rfl) (vs1 hn hc (by decide)) (by decide) (by decide) (okI rfl) (fun hp6 hR5 => ?_)
      refine wp_aload_n (i := 0) dX0_copyFrom_76 rfl rfl ?_
      refine wp_aload_n (i := 1) dX0_copyFrom_77 rfl rfl ?_
      refine wr_get (g := 1) (n := n') (a := c) (b := 0) (k := 6) dX0_copyFrom_78 hR5 f_X0_35 (vs1 hn' hc (by decide)) (by decide) (by decide) ?_
      refine wr_put (g := 1) (n := n) (a := c) (b := 0) (k := 6) dX0_copyFrom_81 hR5 (p_X0_35 rfl) (vs1 hn hc (by decide)) (by decide) (by decide) (okB rfl (hR5.bool (vs1 hn' hc (by decide)) rfl (by decide))) (fun hp8 hR7 => ?_)
      refine wp_aload_n (i := 0) dX0_copyFrom_84 rfl rfl ?_
      refine wp_aload_n (i := 1) dX0_copyFrom_85 rfl rfl ?_
      refine wr_get (g := 1) (n := n') (a := c) (b := 0) (k := 7) dX0_copyFrom_86 hR7 f_X0_110 (vs1 hn' hc (by decide)) (by decide) (by decide) ?_
      refine wr_put (g := 1) (n := n) (a := c) (b := 0) (k := 7) dX0_copyFrom_89 hR7 (p_X0_110 rfl) (vs1 hn hc (by decide)) (by decide) (by decide) (okI rfl) (fun hp10 hR9 => ?_)
      refine wp_aload_n (i := 0) dX0_copyFrom_92 rfl rfl ?_
      refine wp_aload_n (i := 1) dX0_copyFrom_93 rfl rfl ?_
      refine wr_get (g := 1) (n := n') (a := c) (b := 0) (k := 8) dX0_copyFrom_94 hR9 f_X0_113 (vs1 hn' hc (by decide)) (by decide) (by decide) ?_
      refine wr_put (g := 1) (n := n) (a := c) (b := 0) (k := 8) dX0_copyFrom_97 hR9 (p_X0_113 rfl) (vs1 hn hc (by decide)) (by decide) (by decide) (okI rfl) (fun hp12 hR11 => ?_)
      refine wp_aload_n (i := 0) dX0_copyFrom_100 rfl rfl ?_
      refine wp_aload_n (i := 1) dX0_copyFrom_101 rfl rfl ?_
      refine wr_get (g := 1) (n := n') (a := c) (b := 0) (k := 9) dX0_copyFrom_102 hR11 f_X0_78 (vs1 hn' hc (by decide)) (by decide) (by decide) ?_
      refine wr_put (g := 1) (n := n) (a := c) (b := 0) (k := 9) dX0_copyFrom_105 hR11 (p_X0_78 rfl) (vs1 hn hc (by decide)) (by decide) (by decide) (okI rfl) (fun hp14 hR13 => ?_)
      refine wp_aload_n (i := 0) dX0_copyFrom_108 rfl rfl ?_
      refine wp_aload_n (i := 1) dX0_copyFrom_109 rfl rfl ?_
      refine wr_get (g := 1) (n := n') (a := c) (b := 0) (k := 10) dX0_copyFrom_110 hR13 f_X0_75 (vs1 hn' hc (by decide)) (by decide) (by decide) ?_
      refine wr_put (g := 1) (n := n) (a := c) (b := 0) (k := 10) dX0_copyFrom_113 hR13 (p_X0_75 rfl) (vs1 hn hc (by decide)) (by decide) (by decide) (okI rfl) (fun hp16 hR15 => ?_)
      refine wp_aload_n (i := 0) dX0_copyFrom_116 rfl rfl ?_
      refine wp_aload_n (i := 1) dX0_copyFrom_117 rfl rfl ?_
      refine wr_get (g := 1) (n := n') (a := c) (b := 0) (k := 11) dX0_copyFrom_118 hR15 f_X0_116 (vs1 hn' hc (by decide)) (by decide) (by decide) ?_
      refine wr_put (g := 1) (n := n) (a := c) (b := 0) (k := 11) dX0_copyFrom_121 hR15 (p_X0_116 rfl) (vs1 hn hc (by decide)) (by decide) (by decide) (okI rfl) (fun hp18 hR17 => ?_)
      refine wp_ret (v := none) dX0_copyFrom_124 rfl ?_
      have e9 : i = 12 := by
        rcases Nat.lt_or_ge i 12 with q | q
        · exact absurd (nI_lt q (by decide)) c5
        · omega
      subst e9
      have k1 := hM.trans (P2 := fun g a b k => a = c ∧ ((g = 2 ∧ b < 12 ∧ k < 8) ∨ (g = 3 ∧ b = 0 ∧ k < 12) ∨ (g = 1 ∧ b = 0 ∧ k = 2))) (Q2 := fun _ _ => False) hne (CP.one M 1 c 0 2) (fun g a b k => by omega) (fun y a => by simp)
      have k2 := k1.trans (P2 := fun g a b k => a = c ∧ ((g = 2 ∧ b < 12 ∧ k < 8) ∨ (g = 3 ∧ b = 0 ∧ k < 12) ∨ (g = 1 ∧ b = 0 ∧ k = 2))) (Q2 := fun y a => y = 0 ∧ a = c) hne hT8 (fun g a b k => by simp) (fun y a => by simp)
      have k3 := k2.trans (P2 := fun g a b k => a = c ∧ ((g = 2 ∧ b < 12 ∧ k < 8) ∨ (g = 3 ∧ b = 0 ∧ k < 12) ∨ (g = 1 ∧ b = 0 ∧ (k = 2 ∨ (4 ≤ k ∧ k < 5))))) (Q2 := fun y a => y = 0 ∧ a = c) hne (CP.one _ 1 c 0 4) (fun g a b k => by omega) (fun y a => by simp)
      have k4 := k3.trans (P2 := fun g a b k => a = c ∧ ((g = 2 ∧ b < 12 ∧ k < 8) ∨ (g = 3 ∧ b = 0 ∧ k < 12) ∨ (g = 1 ∧ b = 0 ∧ (k = 2 ∨ (4 ≤ k ∧ k < 6))))) (Q2 := fun y a => y = 0 ∧ a = c) hne (CP.one _ 1 c 0 5) (fun g a b k => by omega) (fun y a => by simp)
      have k5 := k4.trans (P2 := fun g a b k => a = c ∧ ((g = 2 ∧ b < 12 ∧ k < 8) ∨ (g = 3 ∧ b = 0 ∧ k < 12) ∨ (g = 1 ∧ b = 0 ∧ (k = 2 ∨ (4 ≤ k ∧ k < 7))))) (Q2 := fun y a => y = 0 ∧ a = c) hne (CP.one _ 1 c 0 6) (fun g a b k => by omega) (fun y a => by simp)
      have k6 := k5.trans (P2 := fun g a b k => a = c ∧ ((g = 2 ∧ b < 12 ∧ k < 8) ∨ (g = 3 ∧ b = 0 ∧ k < 12) ∨ (g = 1 ∧ b = 0 ∧ (k = 2 ∨ (4 ≤ k ∧ k < 8))))) (Q2 := fun y a => y = 0 ∧ a = c) hne (CP.one _ 1 c 0 7) (fun g a b k => by omega) (fun y a => by simp)
      have k7 := k6.trans (P2 := fun g a b k => a = c ∧ ((g = 2 ∧ b < 12 ∧ k < 8) ∨ (g = 3 ∧ b = 0 ∧ k < 12) ∨ (g = 1 ∧ b = 0 ∧ (k = 2 ∨ (4 ≤ k ∧ k < 9))))) (Q2 := fun y a => y = 0 ∧ a = c) hne (CP.one _ 1 c 0 8) (fun g a b k => by omega) (fun y a => by simp)
      have k8 := k7.trans (P2 := fun g a b k => a = c ∧ ((g = 2 ∧ b < 12 ∧ k < 8) ∨ (g = 3 ∧ b = 0 ∧ k < 12) ∨ (g = 1 ∧ b = 0 ∧ (k = 2 ∨ (4 ≤ k ∧ k < 10))))) (Q2 := fun y a => y = 0 ∧ a = c) hne (CP.one _ 1 c 0 9) (fun g a b k => by omega) (fun y a => by simp)
      have k9 := k8.trans (P2 := fun g a b k => a = c ∧ ((g = 2 ∧ b < 12 ∧ k < 8) ∨ (g = 3 ∧ b = 0 ∧ k < 12) ∨ (g = 1 ∧ b = 0 ∧ (k = 2 ∨ (4 ≤ k ∧ k < 11))))) (Q2 := fun y a => y = 0 ∧ a = c) hne (CP.one _ 1 c 0 10) (fun g a b k => by omega) (fun y a => by simp)
      have k10 := k9.trans (P2 := fun g a b k => a = c ∧ ((g = 2 ∧ b < 12 ∧ k < 8) ∨ (g = 3 ∧ b = 0 ∧ k < 12) ∨ (g = 1 ∧ b = 0 ∧ (k = 2 ∨ (4 ≤ k ∧ k < 12))))) (Q2 := fun y a => y = 0 ∧ a = c) hne (CP.one _ 1 c 0 11) (fun g a b k => by omega) (fun y a => by simp)
      exact ⟨trivial, rfl, _, hR17, k10⟩
    · skip
      have hi9 : i < 12 := (nI_ltI (by omega) (by decide)).mp c5
      refine wp_aload_n (i := 0) dX0_copyFrom_8 rfl rfl ?_
      refine wr_cliR (j := rF n c) dX0_copyFrom_9 hR f_X0_11 hn hc (Or.inl ⟨rfl, rfl⟩) ?_
      refine wp_iload_n (i := 2) dX0_copyFrom_12 rfl rfl ?_
      refine wr_aF (f := i) dX0_copyFrom_13 hR rfl hn hc hi9 ?_
      refine wp_aload_n (i := 1) dX0_copyFrom_14 rfl rfl ?_
      refine wr_cliR (j := rF n' c) dX0_copyFrom_15 hR f_X0_11 hn' hc (Or.inl ⟨rfl, rfl⟩) ?_
      refine wp_iload_n (i := 2) dX0_copyFrom_18 rfl rfl ?_
      refine wr_aF (f := i) dX0_copyFrom_19 hR rfl hn' hc hi9 ?_
      refine wp_callV (N := mX1_copyFrom) (as := [.ref (xi 2 n' c i)]) dX0_copyFrom_20 l_X0_127 v_X1_copyFrom rfl (hR.oo (vs2 hn hc hi9 (k := 0) (by decide)) (by decide)) rfl (by decide) (s_heCopy hR hn hn' hne hc hi9) (fun v hp9 hq => ?_)
      obtain ⟨rfl, M9, hR9, hC9⟩ := hq
      have hM9 := hM.trans (P2 := fun g a b k => a = c ∧ ((g = 2 ∧ b < i + 1 ∧ k < 8) ∨ (g = 3 ∧ b = 0 ∧ k < i))) (Q2 := fun _ _ => False) hne hC9 (fun g a b k => by omega) (fun y a => by simp)
      refine wp_aload_n (i := 0) dX0_copyFrom_23 rfl rfl ?_
      refine wr_cliR (j := xi 3 n c 0) dX0_copyFrom_24 hR9 f_X0_17 hn hc (Or.inr (Or.inl ⟨rfl, rfl⟩)) ?_
      refine wp_iload_n (i := 2) dX0_copyFrom_27 rfl rfl ?_
      refine wp_aload_n (i := 1) dX0_copyFrom_28 rfl rfl ?_
      refine wr_cliR (j := xi 3 n' c 0) dX0_copyFrom_29 hR9 f_X0_17 hn' hc (Or.inr (Or.inl ⟨rfl, rfl⟩)) ?_
      refine wp_iload_n (i := 2) dX0_copyFrom_32 rfl rfl ?_
      refine wr_ordG (k := i) dX0_copyFrom_33 hR9 rfl (vs3 hn' hc hi9) ?_
      refine wr_ordP (k := i) dX0_copyFrom_34 hR9 rfl (vs3 hn hc hi9) (fun hp20 hR19 => ?_)
      refine wp_iinc (v := nI (i + 1)) dX0_copyFrom_35 rfl (nI_1 _) ?_
      refine wp_goto (tgt := 2) dX0_copyFrom_38 (by decide) ?_
      exact ih (12 - (i + 1)) (by omega) (i + 1) rfl (by omega) _ _ hR19 (hM9.trans hne (CP.one M9 3 c 0 i) (fun g a b k => by omega) (fun y a => by simp))
theorem s_clCopy (hR : Rep hp M) (hn : n < 2) (hn' : n' < 2) (hne : n' ≠ n) (hc : c < 4) : WM L xs (d + 2) mX0_copyFrom [.ref (xi 1 n c 0), .ref (xi 1 n' c 0)] hp (fun v hp' => v = none ∧ ∃ M', Rep hp' M' ∧ CP n n' (PC c) (fun y a => y = 0 ∧ a = c) M M') := by
  refine WM.of [some (.ref _), some (.ref _), none] (by decide) rfl (Nat.le_of_ble_eq_true rfl) ?_
  refine wp_iconst (v := 0) dX0_copyFrom_0 rfl ?_
  refine wp_istore_n (i := 2) dX0_copyFrom_1 rfl (Nat.le_of_ble_eq_true rfl) ?_
  exact w_clc_2 hn hn' hne hc 12 0 rfl (by decide) _ _ hR (CP.rfl' _ _ _ (fun g a b k => by omega) (fun _ _ q => q))
end COPY2
end
section
/-! ===== copies, III: a net ===== -/
def PN (i f : Nat) : Nat → Nat → Nat → Nat → Prop := fun g a b k => (g = 0 ∧ a = 0 ∧ b = 0 ∧ k < 5) ∨ (a < i ∧ ((g = 2 ∧ b < 12 ∧ k < 8) ∨ (g = 3 ∧ b = 0 ∧ k < 12) ∨ (g = 1 ∧ b = 0 ∧ (k = 2 ∨ (4 ≤ k ∧ k < 12))))) ∨ (a < f ∧ b = 0 ∧ ((g = 4 ∧ (k < 2 ∨ k = 4)) ∨ (g = 5 ∧ k < 4)))
def QN (i f t : Nat) : Nat → Nat → Prop := fun y a => (y = 0 ∧ a < i) ∨ (y = 1 ∧ a < f) ∨ (y = 2 ∧ a < t)
theorem PN_c (i f g a b k : Nat) : PN (i + 1) f g a b k ↔ PN i f g a b k ∨ PC i g a b k := by
  unfold PN PC
  generalize ((g = 2 ∧ b < 12 ∧ k < 8) ∨ (g = 3 ∧ b = 0 ∧ k < 12) ∨ (g = 1 ∧ b = 0 ∧ (k = 2 ∨ (4 ≤ k ∧ k < 12)))) = X
  generalize (g = 0 ∧ a = 0 ∧ b = 0 ∧ k < 5) = Y
  generalize (a < f ∧ b = 0 ∧ ((g = 4 ∧ (k < 2 ∨ k = 4)) ∨ (g = 5 ∧ k < 4))) = Z
  constructor
  · rintro (h | ⟨h, x⟩ | h)
    · exact Or.inl (Or.inl h)
    · rcases Nat.lt_or_ge a i with q | q
      · exact Or.inl (Or.inr (Or.inl ⟨q, x⟩))
      · exact Or.inr ⟨by omega, x⟩
    · exact Or.inl (Or.inr (Or.inr h))
  · rintro ((h | ⟨h, x⟩ | h) | ⟨h, x⟩)
    · exact Or.inl h
    · exact Or.inr (Or.inl ⟨by omega, x⟩)
    · exact Or.inr (Or.inr h)
    · exact Or.inr (Or.inl ⟨by omega, x⟩)
theorem PN_s (i f g a b k : Nat) : PN i (f + 1) g a b k ↔ PN i f g a b k ∨ PS f g a b k := by
  unfold PN PS
  generalize ((g = 2 ∧ b < 12 ∧ k < 8) ∨ (g = 3 ∧ b = 0 ∧ k < 12) ∨ (g = 1 ∧ b = 0 ∧ (k = 2 ∨ (4 ≤ k ∧ k < 12)))) = X
  generalize (g = 0 ∧ a = 0 ∧ b = 0 ∧ k < 5) = Y
  generalize ((g = 4 ∧ (k < 2 ∨ k = 4)) ∨ (g = 5 ∧ k < 4)) = Z
  constructor
  · rintro (h | h | ⟨h, h0, x⟩)
    · exact Or.inl (Or.inl h)
    · exact Or.inl (Or.inr (Or.inl h))
    · rcases Nat.lt_or_ge a f with q | q
      · exact Or.inl (Or.inr (Or.inr ⟨q, h0, x⟩))
      · exact Or.inr ⟨by omega, h0, x⟩
  · rintro ((h | h | ⟨h, h0, x⟩) | ⟨h, h0, x⟩)
    · exact Or.inl h
    · exact Or.inr (Or.inl h)
    · exact Or.inr (Or.inr ⟨by omega, h0, x⟩)
    · exact Or.inr (Or.inr ⟨by omega, h0, x⟩)
theorem PN_0 (g a b k : Nat) : PN 0 0 g a b k ↔ (g = 0 ∧ a = 0 ∧ b = 0 ∧ k < 5) := by
  unfold PN
  constructor
  · rintro (h | ⟨h, -⟩ | ⟨h, -⟩)
    · exact h
    · exact absurd h (Nat.not_lt_zero _)
    · exact absurd h (Nat.not_lt_zero _)
  · exact Or.inl
theorem QN_0 (y a : Nat) : QN 0 0 0 y a ↔ False ∨ False := by
  unfold QN
  constructor
  · rintro (⟨-, h⟩ | ⟨-, h⟩ | ⟨-, h⟩) <;> exact absurd h (Nat.not_lt_zero _)
  · rintro (h | h) <;> exact h.elim
section COPY3
variable {L : Nat} {xs : Nat → Int32} {d : Nat} {hp : AH} {M : MS} {n n' c f : Nat}
theorem w_nc_99 (hn : n < 2) (hn' : n' < 2) (hne : n' ≠ n) {M0 : MS} : ∀ (m i : Nat), 9 - i = m → i ≤ 9 → ∀ (hp : AH) (M : MS), Rep hp M → CP n n' (PN 4 12) (QN 4 12 i) M0 M → WP L xs (d + 3) mX2_copyFrom 99 [some (.ref (xi 0 n 0 0)), some (.ref (xi 0 n' 0 0)), some (.int (nI i))] [] hp (fun v hp' => retOk mX2_copyFrom.2.2.2 v ∧ v = none ∧ ∃ M', Rep hp' M' ∧ CP n n' (PN 4 12) (QN 4 12 9) M0 M') := by
  intro m
  induction m using Nat.strongRecOn with
  | ind m ih =>
    intro i hm hi0 hp M hR hM
    subst hm
    refine wp_iload_n (i := 2) dX2_copyFrom_99 rfl rfl ?_
    refine wp_bipush (v := nI 9) dX2_copyFrom_100 (by decide) ?_
    refine wp_icmp_ge (tgt := 126) dX2_copyFrom_102 (by decide) (fun c102 => ?_) (fun c102 => ?_)
    · skip
      have e9 : i = 9 := by
        rcases Nat.lt_or_ge i 9 with q | q
        · exact absurd (nI_lt q (by decide)) c102
        · omega
      subst e9
      refine wp_ret (v := none) dX2_copyFrom_126 rfl ?_
      exact ⟨trivial, rfl, _, hR, hM⟩
    · skip
      have hi9 : i < 9 := (nI_ltI (by omega) (by decide)).mp c102
      refine wp_aload_n (i := 0) dX2_copyFrom_105 rfl rfl ?_
      refine wr_netR (j := rT n) dX2_copyFrom_106 hR f_X2_35 hn (Or.inr (Or.inr ⟨rfl, rfl⟩)) ?_
      refine wp_iload_n (i := 2) dX2_copyFrom_109 rfl rfl ?_
      refine wr_aT (k := i) dX2_copyFrom_110 hR rfl hn hi9 ?_
      refine wp_aload_n (i := 1) dX2_copyFrom_111 rfl rfl ?_
      refine wr_netR (j := rT n') dX2_copyFrom_112 hR f_X2_35 hn' (Or.inr (Or.inr ⟨rfl, rfl⟩)) ?_
      refine wp_iload_n (i := 2) dX2_copyFrom_115 rfl rfl ?_
      refine wr_aT (k := i) dX2_copyFrom_116 hR rfl hn' hi9 ?_
      refine wp_callV (N := mX4_copyFrom) (as := [.ref (xt 2 n' i)]) dX2_copyFrom_117 l_X2_218 v_X4_copyFrom rfl (hR.oT (vt2 hn hi9)) rfl (by decide) (s_tabCopy hR (vt2 hn hi9) (vt2 hn' hi9) (fun q => hne q.1)) (fun v hp8 hq => ?_)
      obtain ⟨rfl, hR8⟩ := hq
      have hT8 := CP.tab (n := n) (n' := n') hR (vt2 hn hi9) (vt2 hn' hi9)
      refine wp_iinc (v := nI (i + 1)) dX2_copyFrom_120 rfl (nI_1 _) ?_
      refine wp_goto (tgt := 99) dX2_copyFrom_123 (by decide) ?_
      exact ih (9 - (i + 1)) (by omega) (i + 1) rfl (by omega) _ _ hR8 (hM.trans hne hT8 (fun g a b k => by simp) (fun y a => by unfold QN; omega))
theorem w_nc_70 (hn : n < 2) (hn' : n' < 2) (hne : n' ≠ n) {M0 : MS} : ∀ (m i : Nat), 12 - i = m → i ≤ 12 → ∀ (hp : AH) (M : MS), Rep hp M → CP n n' (PN 4 i) (QN 4 i 0) M0 M → WP L xs (d + 3) mX2_copyFrom 70 [some (.ref (xi 0 n 0 0)), some (.ref (xi 0 n' 0 0)), some (.int (nI i))] [] hp (fun v hp' => retOk mX2_copyFrom.2.2.2 v ∧ v = none ∧ ∃ M', Rep hp' M' ∧ CP n n' (PN 4 12) (QN 4 12 9) M0 M') := by
  intro m
  induction m using Nat.strongRecOn with
  | ind m ih =>
    intro i hm hi0 hp M hR hM
    subst hm
    refine wp_iload_n (i := 2) dX2_copyFrom_70 rfl rfl ?_
    refine wp_bipush (v := nI 12) dX2_copyFrom_71 (by decide) ?_
    refine wp_icmp_ge (tgt := 97) dX2_copyFrom_73 (by decide) (fun c73 => ?_) (fun c73 => ?_)
    · skip
      refine wp_iconst (v := 0) dX2_copyFrom_97 rfl ?_
      refine wp_istore_n (i := 2) dX2_copyFrom_98 rfl (Nat.le_of_ble_eq_true rfl) ?_
      have e9 : i = 12 := by
        rcases Nat.lt_or_ge i 12 with q | q
        · exact absurd (nI_lt q (by decide)) c73
        · omega
      subst e9
      exact w_nc_99 hn hn' hne 9 0 rfl (by decide) _ _ hR hM
    · skip
      have hi9 : i < 12 := (nI_ltI (by omega) (by decide)).mp c73
      refine wp_aload_n (i := 0) dX2_copyFrom_76 rfl rfl ?_
      refine wr_netR (j := rS n) dX2_copyFrom_77 hR f_X2_29 hn (Or.inr (Or.inl ⟨rfl, rfl⟩)) ?_
      refine wp_iload_n (i := 2) dX2_copyFrom_80 rfl rfl ?_
      refine wr_aS (f := i) dX2_copyFrom_81 hR rfl hn hi9 ?_
      refine wp_aload_n (i := 1) dX2_copyFrom_82 rfl rfl ?_
      refine wr_netR (j := rS n') dX2_copyFrom_83 hR f_X2_29 hn' (Or.inr (Or.inl ⟨rfl, rfl⟩)) ?_
      refine wp_iload_n (i := 2) dX2_copyFrom_86 rfl rfl ?_
      refine wr_aS (f := i) dX2_copyFrom_87 hR rfl hn' hi9 ?_
      refine wp_callV (N := mX3_copyFrom) (as := [.ref (xi 4 n' i 0)]) dX2_copyFrom_88 l_X2_215 v_X3_copyFrom rfl (hR.oo (vs4 hn hi9 (k := 0) (by decide)) (by decide)) rfl (by decide) (s_shCopy hR hn hn' hne hi9) (fun v hp9 hq => ?_)
      obtain ⟨rfl, M9, hR9, hC9⟩ := hq
      refine wp_iinc (v := nI (i + 1)) dX2_copyFrom_91 rfl (nI_1 _) ?_
      refine wp_goto (tgt := 70) dX2_copyFrom_94 (by decide) ?_
      exact ih (12 - (i + 1)) (by omega) (i + 1) rfl (by omega) _ _ hR9 (hM.trans hne hC9 (fun g a b k => PN_s _ _ _ _ _ _) (fun y a => by unfold QN; omega))
theorem w_nc_42 (hn : n < 2) (hn' : n' < 2) (hne : n' ≠ n) {M0 : MS} : ∀ (m i : Nat), 4 - i = m → i ≤ 4 → ∀ (hp : AH) (M : MS), Rep hp M → CP n n' (PN i 0) (QN i 0 0) M0 M → WP L xs (d + 3) mX2_copyFrom 42 [some (.ref (xi 0 n 0 0)), some (.ref (xi 0 n' 0 0)), some (.int (nI i))] [] hp (fun v hp' => retOk mX2_copyFrom.2.2.2 v ∧ v = none ∧ ∃ M', Rep hp' M' ∧ CP n n' (PN 4 12) (QN 4 12 9) M0 M') := by
  intro m
  induction m using Nat.strongRecOn with
  | ind m ih =>
    intro i hm hi0 hp M hR hM
    subst hm
    refine wp_iload_n (i := 2) dX2_copyFrom_42 rfl rfl ?_
    refine wp_iconst (v := 4) dX2_copyFrom_43 rfl ?_
    refine wp_icmp_ge (tgt := 68) dX2_copyFrom_44 (by decide) (fun c44 => ?_) (fun c44 => ?_)
    · skip
      refine wp_iconst (v := 0) dX2_copyFrom_68 rfl ?_
      refine wp_istore_n (i := 2) dX2_copyFrom_69 rfl (Nat.le_of_ble_eq_true rfl) ?_
      have e9 : i = 4 := by
        rcases Nat.lt_or_ge i 4 with q | q
        · exact absurd (nI_lt q (by decide)) c44
        · omega
      subst e9
      exact w_nc_70 hn hn' hne 12 0 rfl (by decide) _ _ hR hM
    · skip
      have hi9 : i < 4 := (nI_ltI (by omega) (by decide)).mp c44
      refine wp_aload_n (i := 0) dX2_copyFrom_47 rfl rfl ?_
      refine wr_netR (j := rC n) dX2_copyFrom_48 hR f_X2_23 hn (Or.inl ⟨rfl, rfl⟩) ?_
      refine wp_iload_n (i := 2) dX2_copyFrom_51 rfl rfl ?_
      refine wr_aC (c := i) dX2_copyFrom_52 hR rfl hn hi9 ?_
      refine wp_aload_n (i := 1) dX2_copyFrom_53 rfl rfl ?_
      refine wr_netR (j := rC n') dX2_copyFrom_54 hR f_X2_23 hn' (Or.inl ⟨rfl, rfl⟩) ?_
      refine wp_iload_n (i := 2) dX2_copyFrom_57 rfl rfl ?_
      refine wr_aC (c := i) dX2_copyFrom_58 hR rfl hn' hi9 ?_
      refine wp_callV (N := mX0_copyFrom) (as := [.ref (xi 1 n' i 0)]) dX2_copyFrom_59 l_X2_211 v_X0_copyFrom rfl (hR.oo (vs1 hn hi9 (k := 2) (by decide)) (by decide)) rfl (by decide) (s_clCopy hR hn hn' hne hi9) (fun v hp9 hq => ?_)
      obtain ⟨rfl, M9, hR9, hC9⟩ := hq
      refine wp_iinc (v := nI (i + 1)) dX2_copyFrom_62 rfl (nI_1 _) ?_
      refine wp_goto (tgt := 42) dX2_copyFrom_65 (by decide) ?_
      exact ih (4 - (i + 1)) (by omega) (i + 1) rfl (by omega) _ _ hR9 (hM.trans hne hC9 (fun g a b k => PN_c _ _ _ _ _ _) (fun y a => by unfold QN; omega))
/-- a net as the other -/
theorem s_netCopy (hR : Rep hp M) (hn : n < 2) (hn' : n' < 2) (hne : n' ≠ n) : WM L xs (d + 3) mX2_copyFrom [.ref (xi 0 n 0 0), .ref (xi 0 n' 0 0)] hp (fun v hp' => v = none ∧ ∃ M', Rep hp' M' ∧ CP n n' (PN 4 12) (QN 4 12 9) M M') := by
  refine WM.of [some (.ref _), some (.ref _), none] (by decide) rfl (Nat.le_of_ble_eq_true rfl) ?_
  refine wp_aload_n (i := 0) dX2_copyFrom_0 rfl rfl ?_
  refine wp_aload_n (i := 1) dX2_copyFrom_1 rfl rfl ?_
  refine wr_get (g := 0) (n := n') (a := 0) (b := 0) (k := 0) dX2_copyFrom_2 hR f_X2_62 (vs0 hn' (by decide)) (by decide) (by decide) ?_
  refine wr_put (g := 0) (n := n) (a := 0) (b := 0) (k := 0) dX2_copyFrom_5 hR (p_X2_62 rfl) (vs0 hn (by decide)) (by decide) (by decide) (okI rfl) (fun hp2 hR1 => ?_)
  refine wp_aload_n (i := 0) dX2_copyFrom_8 rfl rfl ?_
  refine wp_aload_n (i := 1) dX2_copyFrom_9 rfl rfl ?_
  refine wr_get (g := 0) (n := n') (a := 0) (b := 0) (k := 1) dX2_copyFrom_10 hR1 f_X2_9 (vs0 hn' (by decide)) (by decide) (by decide) ?_
  refine wr_put (g := 0) (n := n) (a := 0) (b := 0) (k := 1) dX2_copyFrom_13 hR1 (p_X2_9 rfl) (vs0 hn (by decide)) (by decide) (by decide) (okI rfl) (fun hp4 hR3 => ?_)
  refine wp_aload_n (i := 0) dX2_copyFrom_16 rfl rfl ?_
  refine wp_aload_n (i := 1) dX2_copyFrom_17 rfl rfl ?_
  refine wr_get (g := 0) (n := n') (a := 0) (b := 0) (k := 2) dX2_copyFrom_18 hR3 f_X2_15 (vs0 hn' (by decide)) (by decide) (by decide) ?_
  refine wr_put (g := 0) (n := n) (a := 0) (b := 0) (k := 2) dX2_copyFrom_21 hR3 (p_X2_15 rfl) (vs0 hn (by decide)) (by decide) (by decide) (okI rfl) (fun hp6 hR5 => ?_)
  refine wp_aload_n (i := 0) dX2_copyFrom_24 rfl rfl ?_
  refine wp_aload_n (i := 1) dX2_copyFrom_25 rfl rfl ?_
  refine wr_get (g := 0) (n := n') (a := 0) (b := 0) (k := 3) dX2_copyFrom_26 hR5 f_X2_18 (vs0 hn' (by decide)) (by decide) (by decide) ?_
  refine wr_put (g := 0) (n := n) (a := 0) (b := 0) (k := 3) dX2_copyFrom_29 hR5 (p_X2_18 rfl) (vs0 hn (by decide)) (by decide) (by decide) (okI rfl) (fun hp8 hR7 => ?_)
  refine wp_aload_n (i := 0) dX2_copyFrom_32 rfl rfl ?_
  refine wp_aload_n (i := 1) dX2_copyFrom_33 rfl rfl ?_
  refine wr_get (g := 0) (n := n') (a := 0) (b := 0) (k := 4) dX2_copyFrom_34 hR7 f_X2_44 (vs0 hn' (by decide)) (by decide) (by decide) ?_
  refine wr_put (g := 0) (n := n) (a := 0) (b := 0) (k := 4) dX2_copyFrom_37 hR7 (p_X2_44 rfl) (vs0 hn (by decide)) (by decide) (by decide) (okI rfl) (fun hp10 hR9 => ?_)
  refine wp_iconst (v := 0) dX2_copyFrom_40 rfl ?_
  refine wp_istore_n (i := 2) dX2_copyFrom_41 rfl (Nat.le_of_ble_eq_true rfl) ?_
  have k1 := CP.one (n := n) (n' := n') M 0 0 0 0
  have k2 := k1.trans (P2 := fun g a b k => g = 0 ∧ a = 0 ∧ b = 0 ∧ k < 2) (Q2 := fun _ _ => False) hne (CP.one _ 0 0 0 1) (fun g a b k => by omega) (fun y a => by simp)
  have k3 := k2.trans (P2 := fun g a b k => g = 0 ∧ a = 0 ∧ b = 0 ∧ k < 3) (Q2 := fun _ _ => False) hne (CP.one _ 0 0 0 2) (fun g a b k => by omega) (fun y a => by simp)
  have k4 := k3.trans (P2 := fun g a b k => g = 0 ∧ a = 0 ∧ b = 0 ∧ k < 4) (Q2 := fun _ _ => False) hne (CP.one _ 0 0 0 3) (fun g a b k => by omega) (fun y a => by simp)
  have k5 := k4.trans (P2 := PN 0 0) (Q2 := QN 0 0 0) hne (CP.one _ 0 0 0 4) (fun g a b k => by rw [PN_0]; omega) (fun y a => by exact QN_0 y a)
  exact w_nc_42 hn hn' hne 4 0 rfl (by decide) _ _ hR9 k5
end COPY3
theorem BB.congr {S S' : Nat → List Row} {rq fl ff : Nat} {V V' : Nat → Nat} {G G' : Nat → Int32} {clk K : Nat} {D : Nat → Nat} {r j s : Nat} {e : Nat → Nat} (h : BB S rq fl ff V G clk K D r j s e) (hS : ∀ k, k < 9 → S' k = S k) (hV : ∀ f, f < 12 → V' f = V f) (hG : ∀ c, c < 4 → G' c = G c) : BB S' rq fl ff V' G' clk K D r j s e := by
  obtain ⟨⟨a1, a2, a3, a4⟩, b, c, d, x, y⟩ := h
  have hm : ∀ k, k % 9 < 9 := fun k => Nat.mod_lt _ (by decide)
  refine ⟨⟨?_, a2, a3, a4⟩, fun c' hc' => ?_, fun c' hc' => ?_, fun f hf => ?_, fun k c' hk hc' => ?_, fun c' hc' => ?_⟩
  · rw [sN_congr (g := fun k => (sl S clk r k).countP kdTh) (fun k hk => by show (sl S' clk r k).countP kdTh = _; unfold sl; rw [hS k hk])]; exact a1
  · rw [hS _ (hm _), hS _ (hm _)]; exact b c' hc'
  · rw [hS _ (hm _), hS _ (hm _)]; exact c c' hc'
  · rw [hS _ (hm _), hV f hf]; exact d f hf
  · rw [hS k hk]; exact x k c' hk hc'
  · rw [hS _ (hm _), hG c' hc']; exact y c' hc'
/-- what holds of a net holds of its copy -/
theorem ST.copy {hp hp' : AH} {M M' : MS} {zB tB n n' clk cc K : Nat} {D : Nat → Nat} {ev : Bool} {e : Nat → Nat} (h : ST hp M zB tB n' clk cc K D ev 0 0 0 e) (hC : CP n n' (PN 4 12) (QN 4 12 9) M M') (hR : Rep hp' M') : ST hp' M' zB tB n clk cc K D ev 0 0 0 e := by
  obtain ⟨hR0, hI, ⟨⟨b1, b2, b3, b4, rm, b6, b5⟩, n2, n3, n4⟩, hB⟩ := h
  obtain ⟨v1, v2, t1, t2, x1, r1⟩ := hC
  have e0 : ∀ k, k < 5 → gV M' 0 n 0 0 k = gV M 0 n' 0 0 k := fun k hk => v1 _ _ _ _ (Or.inl ⟨rfl, rfl, rfl, hk⟩)
  have e1 : ∀ c k, c < 4 → (k = 2 ∨ (4 ≤ k ∧ k < 12)) → gV M' 1 n c 0 k = gV M 1 n' c 0 k := fun c k hc hk => v1 _ _ _ _ (Or.inr (Or.inl ⟨hc, Or.inr (Or.inr ⟨rfl, rfl, hk⟩)⟩))
  have e2 : ∀ c f k, c < 4 → f < 12 → k < 8 → gV M' 2 n c f k = gV M 2 n' c f k := fun c f k hc hf hk => v1 _ _ _ _ (Or.inr (Or.inl ⟨hc, Or.inl ⟨rfl, hf, hk⟩⟩))
  have e3 : ∀ c k, c < 4 → k < 12 → gV M' 3 n c 0 k = gV M 3 n' c 0 k := fun c k hc hk => v1 _ _ _ _ (Or.inr (Or.inl ⟨hc, Or.inr (Or.inl ⟨rfl, rfl, hk⟩)⟩))
  have e4 : ∀ f k, f < 12 → (k < 2 ∨ k = 4) → gV M' 4 n f 0 k = gV M 4 n' f 0 k := fun f k hf hk => v1 _ _ _ _ (Or.inr (Or.inr ⟨hf, rfl, Or.inl ⟨rfl, hk⟩⟩))
  have hv : ∀ f, f < 12 → vrs M' n f = vrs M n' f := fun f hf => by show vN _ = vN _; rw [e4 f 1 hf (by omega)]
  have T0 : ∀ a, a < 4 → gT M' 0 n a = gT M 0 n' a := fun a ha => t1 _ _ (Or.inl ⟨rfl, ha⟩)
  have T1 : ∀ a, a < 12 → gT M' 1 n a = gT M 1 n' a := fun a ha => t1 _ _ (Or.inr (Or.inl ⟨rfl, ha⟩))
  have T2 : ∀ a, a < 9 → gT M' 2 n a = gT M 2 n' a := fun a ha => t1 _ _ (Or.inr (Or.inr ⟨rfl, ha⟩))
  refine ⟨hR, r1 _ _ hI, ⟨⟨b1, b2, by rw [e0 0 (by decide)]; exact b3, by rw [e0 4 (by decide)]; exact b4, rm, b6, by rw [e0 3 (by decide)]; exact b5⟩, fun c hc => ?_, fun f hf => ?_, fun k hk q hq => ?_⟩, ?_⟩
  · obtain ⟨⟨l, ⟨o1, o2, o3, o4⟩, i2, i3, i4, i5⟩, a2, a3, a4, a5, a6, a7⟩ := n2 c hc
    refine ⟨⟨l, ⟨by rw [e1 c 2 hc (by omega)]; exact o1, o2, o3, fun k f q => ?_⟩, i2, i3, fun f hf => by rw [e2 c f 0 hc hf (by decide)]; exact i4 f hf, fun f hf => by rw [e2 c f 4 hc hf (by decide)]; exact i5 f hf⟩, by rw [e1 c 4 hc (by omega)]; exact a2, a3, ?_, by rw [T0 c hc]; exact a5, fun f hf => ?_, ?_⟩
    · rw [e3 c k hc (by have := (List.getElem?_eq_some_iff.mp q).1; omega)]; exact o4 k f q
    · rw [e1 c 6 hc (by omega)]; intro q f hf; rw [e2 c f 6 hc hf (by decide), e2 c f 7 hc hf (by decide)]; exact a4 q f hf
    · unfold HJ; rw [hv f hf, e2 c f 1 hc hf (by decide), e2 c f 2 hc hf (by decide)]; exact a6 f hf
    · rw [e1 c 6 hc (by omega), e1 c 11 hc (by omega)]; exact a7
  · unfold SJ; rw [hv f hf, e4 f 0 hf (by omega), e4 f 1 hf (by omega), T1 f hf]; exact n3 f hf
  · rw [T2 k hk] at hq
    obtain ⟨y1, ⟨f, hf, y2, y3, y4⟩, y5⟩ := n4 k hk q hq
    exact ⟨y1, ⟨f, hf, y2, y3, by rw [hv f hf]; exact y4⟩, y5⟩
  · unfold BJ at hB ⊢
    rw [show RQ M' n = RQ M n' from sN_congr (fun f hf => by rw [T1 f hf]), show FL M' n = FL M n' from sN_congr (fun c hc => sN_congr (fun f hf => by rw [e2 c f 6 hc hf (by decide), e2 c f 7 hc hf (by decide)])), show FF M' n = FF M n' from sN_congr (fun f hf => by rw [e4 f 4 hf (by omega)])]
    exact hB.congr T2 hv (fun c hc => e1 c 9 hc (by omega))
end
section
/-! ===== what is set ===== -/
section OPS
variable {hp : AH} {M : MS} {zB tB n clk cc K : Nat} {D : Nat → Nat} {ev : Bool} {r j s : Nat} {e : Nat → Nat} {c f : Nat}
/-- term, lag, room -/
theorem ST.net0 {hp' : AH} {k : Nat} {v : Int32} (h : ST hp M zB tB n clk cc K D ev r j s e) (hk : k = 1 ∨ k = 2 ∨ (k = 3 ∧ ∃ r, r ≤ 6 ∧ v = nI r)) (hR : Rep hp' (sV M 0 n 0 0 k v)) : ST hp' (sV M 0 n 0 0 k v) zB tB n clk cc K D ev r j s e ∧ FR M (sV M 0 n 0 0 k v) n := by
  have hx : ∀ g n' a b k', ¬ (g = 0 ∧ k' = k) → gV (sV M 0 n 0 0 k v) g n' a b k' = gV M g n' a b k' := fun g n' a b k' q => sV_ne (fun p => q ⟨p.1, p.2.2.2.2⟩)
  obtain ⟨hR0, hI, ⟨⟨b1, b2, b3, b4, b5⟩, n2, n3, n4⟩, hB⟩ := h
  have hv : vrs (sV M 0 n 0 0 k v) n = vrs M n := funext (fun f => by show vN _ = vN _; rw [hx _ _ _ _ _ (by omega)])
  refine ⟨⟨hR, hI.of rfl rfl (fun _ _ _ => rfl), ⟨⟨b1, b2, by rw [hx _ _ _ _ _ (by omega)]; exact b3, by rw [hx _ _ _ _ _ (by omega)]; exact b4, ?_⟩, fun c hc => ?_, fun f hf => ?_, fun k hk q hq => ?_⟩, ?_⟩, ⟨G0.sv _ _ _ _ _ _ _, fun c _ => ⟨hx _ _ _ _ _ (by omega), hx _ _ _ _ _ (by omega), by rw [hx _ _ _ _ _ (by omega)]; exact Nat.le_refl _⟩, fun f _ => ⟨by rw [hv]; exact Nat.le_refl _, fun _ => hx _ _ _ _ _ (by omega)⟩⟩⟩
  · rcases hk with rfl | rfl | ⟨rfl, rr, h1, h2⟩
    · rw [hx _ _ _ _ _ (by omega)]; exact b5
    · rw [hx _ _ _ _ _ (by omega)]; exact b5
    · exact ⟨rr, h1, by rw [sV_self]; exact h2⟩
  · obtain ⟨⟨l, a1⟩, a2, a3, a4, a5, a6, a7⟩ := n2 c hc
    refine ⟨⟨l, a1.of (hx _ _ _ _ _ (by omega)) (fun _ => hx _ _ _ _ _ (by omega)) (fun _ => ⟨hx _ _ _ _ _ (by omega), hx _ _ _ _ _ (by omega)⟩)⟩, by rw [hx _ _ _ _ _ (by omega)]; exact a2, a3, ?_, a5, fun f hf => ?_, ?_⟩
    · rw [hx _ _ _ _ _ (by omega)]; intro q f hf; rw [hx _ _ _ _ _ (by omega), hx _ _ _ _ _ (by omega)]; exact a4 q f hf
    · unfold HJ; rw [hv, hx _ _ _ _ _ (by omega), hx _ _ _ _ _ (by omega)]; exact a6 f hf
    · rw [hx _ _ _ _ _ (by omega), hx _ _ _ _ _ (by omega)]; exact a7
  · unfold SJ; rw [hv, hx _ _ _ _ _ (by omega), hx _ _ _ _ _ (by omega)]; exact n3 f hf
  · rw [hv]; exact n4 k hk q hq
  · unfold BJ at hB ⊢
    rw [show RQ (sV M 0 n 0 0 k v) n = RQ M n from rfl, FL_eq (M := M) (M' := sV M 0 n 0 0 k v) (fun c' f' _ _ => ⟨hx _ _ _ _ _ (by omega), hx _ _ _ _ _ (by omega)⟩), FF_eq (M := M) (M' := sV M 0 n 0 0 k v) (fun f' _ => hx _ _ _ _ _ (by omega)), hv, show (fun c => gV (sV M 0 n 0 0 k v) 1 n c 0 9) = (fun c => gV M 1 n c 0 9) from funext (fun c => hx _ _ _ _ _ (by omega))]
    exact hB
end OPS
end
section
/-! ===== what is set, II: a file is written, a line is cut ===== -/
section OPS2
variable {hp : AH} {M : MS} {zB tB n clk cc K : Nat} {D : Nat → Nat} {ev : Bool} {r j s : Nat} {e : Nat → Nat} {c f : Nat}
theorem put_get (M : MS) (n c f : Nat) (x t : Int32) (g n' a b k : Nat) (hg : ¬ (g = 2 ∧ n' = n ∧ a = c ∧ b = f)) : gV (mPut M n c f x t) g n' a b k = gV M g n' a b k := by
  unfold mPut
  split
  · rw [sV_ne (by omega), sV_ne (by omega), sV_ne (by omega)]
  · rw [sV_ne (by omega)]
theorem put_own (M : MS) (n c f : Nat) (x t : Int32) : gV (mPut M n c f x t) 2 n c f 1 = x ∧ ¬ gV (mPut M n c f x t) 2 n c f 4 = 0 ∧ ∀ k, k ≠ 1 → k ≠ 4 → k ≠ 5 → gV (mPut M n c f x t) 2 n c f k = gV M 2 n c f k := by
  unfold mPut
  split
  · refine ⟨by rw [sV_ne (by omega), sV_ne (by omega), sV_self], by rw [sV_ne (by omega), sV_self]; decide, fun k h1 h2 h3 => by rw [sV_ne (by omega), sV_ne (by omega), sV_ne (by omega)]⟩
  · next h => exact ⟨sV_self _ _ _ _ _ _ _, by rw [sV_ne (by omega)]; exact h, fun k h1 h2 h3 => sV_ne (by omega)⟩
theorem put_T (M : MS) (n c f : Nat) (x t : Int32) : mz (mPut M n c f x t) = mz M ∧ mt (mPut M n c f x t) = mt M ∧ (∀ y n' a, gT (mPut M n c f x t) y n' a = gT M y n' a ∧ gP (mPut M n c f x t) y n' a = gP M y n' a) ∧ ∀ i, gX (mPut M n c f x t) i = gX M i := by
  unfold mPut
  split <;> exact ⟨rfl, rfl, fun _ _ _ => ⟨rfl, rfl⟩, fun _ => rfl⟩
/-- a file is written -/
theorem ST.put {hp' : AH} {x t : Int32} (h : ST hp M zB tB n clk cc K D ev r j s e) (hc : c < cc) (hf : f < 12) (hx : cOk x) (hh : ¬ gV M 2 n c f 0 = 0) (hR : Rep hp' (mPut M n c f x t)) : ST hp' (mPut M n c f x t) zB tB n clk cc K D ev r j s e ∧ MR M (mPut M n c f x t) n clk := by
  have hC := h.cj hc
  obtain ⟨l, i1, i2, i3, i4, i5⟩ := hC.1
  obtain ⟨o1, o2, o3⟩ := put_own M n c f x t
  obtain ⟨t1, t2, t3, t4⟩ := put_T M n c f x t
  have hg := put_get M n c f x t
  have hO : OC M (mPut M n c f x t) n c := ⟨fun g n' a b k q => hg g n' a b k (fun p => q ⟨p.2.1, p.2.2.1, by omega⟩), fun y n' a _ => t3 y n' a, t4⟩
  have hk : ∀ k, gV (mPut M n c f x t) 1 n c 0 k = gV M 1 n c 0 k := fun k => hg _ _ _ _ _ (by omega)
  have h67 : ∀ c' f', gV (mPut M n c f x t) 2 n c' f' 6 = gV M 2 n c' f' 6 ∧ gV (mPut M n c f x t) 2 n c' f' 7 = gV M 2 n c' f' 7 := fun c' f' => by
    by_cases e9 : c' = c ∧ f' = f
    · obtain ⟨rfl, rfl⟩ := e9; exact ⟨o3 6 (by decide) (by decide) (by decide), o3 7 (by decide) (by decide) (by decide)⟩
    · exact ⟨hg _ _ _ _ _ (by omega), hg _ _ _ _ _ (by omega)⟩
  have hI : CI (mPut M n c f x t) n c l := by
    refine ⟨i1.oth (hk 2) (fun k => hg _ _ _ _ _ (by omega)), i2, i3, fun g hgl => ?_, fun g hgl hd => ?_⟩
    · by_cases e9 : g = f
      · subst e9; rw [o3 0 (by decide) (by decide) (by decide)]; exact i4 g hgl
      · rw [hg _ _ _ _ _ (by omega)]; exact i4 g hgl
    · by_cases e9 : g = f
      · subst e9; exact (i4 g hgl).mp hh
      · rw [hg _ _ _ _ _ (by omega)] at hd; exact i5 g hgl hd
  refine ⟨⟨hR, h.2.1.of t1 t2 (fun y n' a => (t3 y n' a).2), h.2.2.1.client hO (hC.of hO ⟨l, hI⟩ (hk 4) (fun q f' hf' => ?_) (by rw [(t3 0 n c).1]; exact hC.2.2.2.2.1) (fun f' hf' => ?_) (fun q => by rw [hk 6, hk 11]; exact hC.2.2.2.2.2.2 q)), hO.bj h.2.2.2 (hk 9) (by rw [FL_eq (M := M) (M' := mPut M n c f x t) (fun c' f' _ _ => h67 c' f')]; exact Nat.le_refl _)⟩, MR_oc hO (hk 7) (hk 8) (by rw [hk 9]; exact Nat.le_refl _)⟩
  · rw [hk 6] at q
    rw [(h67 c f').1, (h67 c f').2]; exact hC.2.2.2.1 q f' hf'
  · obtain ⟨a1, a2, a3⟩ := hC.2.2.2.2.2.1 f' hf'
    by_cases e9 : f' = f
    · subst e9
      rw [o1, o3 2 (by decide) (by decide) (by decide)]
      exact ⟨hx, a2, a3⟩
    · rw [hg _ _ _ _ _ (by omega), hg _ _ _ _ _ (by omega)]; exact ⟨a1, a2, a3⟩
end OPS2
end
