/-- a private method of a class that the tables say can be made, by its rows of tables_1 -/
def lw_okq (q : MethodName × Nat) : Prop := (q.1.cls ≠ "java/lang/invoke/MethodHandle" ∧ q.1.cls ≠ "java/lang/invoke/VarHandle") ∧ Cond.instantiable q.1.cls q.2 ∈ tables_1 ∧ Cond.privateMethod q.1 ∈ tables_1 ∧ Cond.instanceMethod q.1 ∈ tables_1
theorem lw_p0 : lw_okq (⟨"ReachedHeap$History", "stateAt", "(I)LReachedHeap$State;"⟩, 3) := ⟨⟨by decide +kernel, by decide +kernel⟩, List.mem_of_getElem? (i := 146) (by decide +kernel), List.mem_of_getElem? (i := 273) (by decide +kernel), List.mem_of_getElem? (i := 274) (by decide +kernel)⟩
theorem lw_p1 : lw_okq (⟨"ReachedHeap$State", "referRoot", "(II)V"⟩, 6) := ⟨⟨by decide +kernel, by decide +kernel⟩, List.mem_of_getElem? (i := 21) (by decide +kernel), List.mem_of_getElem? (i := 330) (by decide +kernel), List.mem_of_getElem? (i := 331) (by decide +kernel)⟩
theorem lw_p2 : lw_okq (⟨"ReachedHeap$State", "takeCare", "(ZII)V"⟩, 6) := ⟨⟨by decide +kernel, by decide +kernel⟩, List.mem_of_getElem? (i := 21) (by decide +kernel), List.mem_of_getElem? (i := 334) (by decide +kernel), List.mem_of_getElem? (i := 335) (by decide +kernel)⟩
theorem lw_p3 : lw_okq (⟨"ReachedHeap$State", "shadeIfCareIsNeeded", "(I)V"⟩, 6) := ⟨⟨by decide +kernel, by decide +kernel⟩, List.mem_of_getElem? (i := 21) (by decide +kernel), List.mem_of_getElem? (i := 458) (by decide +kernel), List.mem_of_getElem? (i := 459) (by decide +kernel)⟩
theorem lw_p4 : lw_okq (⟨"ReachedHeap$Search", "sweep", "(LReachedHeap$Graph;)V"⟩, 9) := ⟨⟨by decide +kernel, by decide +kernel⟩, List.mem_of_getElem? (i := 79) (by decide +kernel), List.mem_of_getElem? (i := 524) (by decide +kernel), List.mem_of_getElem? (i := 525) (by decide +kernel)⟩
theorem lw_p5 : lw_okq (⟨"ReachedHeap$Search", "markFirst", "(LReachedHeap$Graph;)V"⟩, 9) := ⟨⟨by decide +kernel, by decide +kernel⟩, List.mem_of_getElem? (i := 79) (by decide +kernel), List.mem_of_getElem? (i := 541) (by decide +kernel), List.mem_of_getElem? (i := 542) (by decide +kernel)⟩
theorem lw_p6 : lw_okq (⟨"ReachedHeap$Search", "findToFinish", "(LReachedHeap$Graph;)V"⟩, 9) := ⟨⟨by decide +kernel, by decide +kernel⟩, List.mem_of_getElem? (i := 79) (by decide +kernel), List.mem_of_getElem? (i := 551) (by decide +kernel), List.mem_of_getElem? (i := 552) (by decide +kernel)⟩
def lw_privs_1 : List (MethodName × Nat) := [(⟨"ReachedHeap$History", "stateAt", "(I)LReachedHeap$State;"⟩, 3), (⟨"ReachedHeap$State", "referRoot", "(II)V"⟩, 6), (⟨"ReachedHeap$State", "takeCare", "(ZII)V"⟩, 6), (⟨"ReachedHeap$State", "shadeIfCareIsNeeded", "(I)V"⟩, 6), (⟨"ReachedHeap$Search", "sweep", "(LReachedHeap$Graph;)V"⟩, 9), (⟨"ReachedHeap$Search", "markFirst", "(LReachedHeap$Graph;)V"⟩, 9), (⟨"ReachedHeap$Search", "findToFinish", "(LReachedHeap$Graph;)V"⟩, 9)]
theorem lw_r1 : ∀ q ∈ lw_privs_1, lw_okq q := List.forall_mem_cons.mpr ⟨lw_p0, List.forall_mem_cons.mpr ⟨lw_p1, List.forall_mem_cons.mpr ⟨lw_p2, List.forall_mem_cons.mpr ⟨lw_p3, List.forall_mem_cons.mpr ⟨lw_p4, List.forall_mem_cons.mpr ⟨lw_p5, List.forall_mem_cons.mpr ⟨lw_p6, fun _ h => absurd h List.not_mem_nil⟩⟩⟩⟩⟩⟩⟩
def lw_privs : List (MethodName × Nat) := lw_privs_1
def lw_tbl : List Cond := k2_sels lw_privs ++ tables_1
theorem lw_privs_ok : ∀ q ∈ lw_privs, lw_okq q := lw_r1
def RX0 : String := "ReachedHeap$Commands"
def TX0 : u_T := fun k => match k with
  | 0 => ("ReachedHeap$Commands", "signs", "[I", true)
  | 1 => ("ReachedHeap$Commands", "length", "I", false)
  | 2 => ("ReachedHeap$Commands", "next", "I", false)
  | 3 => ("ReachedHeap$Commands", "kind", "I", false)
  | 4 => ("ReachedHeap$Commands", "first", "I", false)
  | 5 => ("ReachedHeap$Commands", "second", "I", false)
  | 6 => ("ReachedHeap$Commands", "third", "I", false)
  | 7 => ("ReachedHeap$Commands", "done", "I", false)
  | 8 => ("ReachedHeap$Commands", "position", "I", false)
  | 9 => ("ReachedHeap$Commands", "reason", "I", false)
  | _ => ("ReachedHeap$Commands", "cause", "I", false)
def tyX0 : Nat → FieldType := fun k => match k with
  | 0 => .array .int
  | 1 => .int
  | 2 => .int
  | 3 => .int
  | 4 => .int
  | 5 => .int
  | 6 => .int
  | 7 => .int
  | 8 => .int
  | 9 => .int
  | _ => .int
abbrev wsX00 : List Cond := u_ws RX0 TX0 11
theorem nmX0 : ∀ a, a < 11 → ∀ b, b < 11 → a ≠ b → (TX0 a).2.1 ≠ (TX0 b).2.1 := by decide +kernel
theorem tyX0_ok : ∀ k, k < 11 → parseFieldDescriptor (TX0 k).2.2.1 = some (tyX0 k) := by decide +kernel
abbrev cX0_init : ByteArray := prog_2_method_1_code
def yX0_init : MethodName := ⟨RX0, "<init>", "()V"⟩
def RX1 : String := "ReachedHeap$Graph"
def TX1 : u_T := fun k => match k with
  | 0 => ("ReachedHeap$Graph", "present", "I", false)
  | 1 => ("ReachedHeap$Graph", "wanting", "I", false)
  | 2 => ("ReachedHeap$Graph", "fields", "[I", true)
  | 3 => ("ReachedHeap$Graph", "roots", "[I", true)
  | 4 => ("ReachedHeap$Graph", "holders", "[I", true)
  | _ => ("ReachedHeap$Graph", "toFinish", "LReachedHeap$Line;", true)
def tyX1 : Nat → FieldType := fun k => match k with
  | 0 => .int
  | 1 => .int
  | 2 => .array .int
  | 3 => .array .int
  | 4 => .array .int
  | _ => .object "ReachedHeap$Line"
abbrev wsX10 : List Cond := u_ws RX1 TX1 6
theorem nmX1 : ∀ a, a < 6 → ∀ b, b < 6 → a ≠ b → (TX1 a).2.1 ≠ (TX1 b).2.1 := by decide +kernel
theorem tyX1_ok : ∀ k, k < 6 → parseFieldDescriptor (TX1 k).2.2.1 = some (tyX1 k) := by decide +kernel
abbrev cX1_init : ByteArray := prog_3_method_1_code
def yX1_init : MethodName := ⟨RX1, "<init>", "()V"⟩
abbrev cX1_has : ByteArray := prog_3_method_2_code
def yX1_has : MethodName := ⟨RX1, "has", "(I)Z"⟩
abbrev cX1_hasOrNone : ByteArray := prog_3_method_3_code
def yX1_hasOrNone : MethodName := ⟨RX1, "hasOrNone", "(I)Z"⟩
abbrev cX1_size : ByteArray := prog_3_method_4_code
def yX1_size : MethodName := ⟨RX1, "size", "()I"⟩
abbrev cX1_fieldOf : ByteArray := prog_3_method_5_code
def yX1_fieldOf : MethodName := ⟨RX1, "fieldOf", "(II)I"⟩
abbrev cX1_setField : ByteArray := prog_3_method_6_code
def yX1_setField : MethodName := ⟨RX1, "setField", "(III)V"⟩
abbrev cX1_rootAt : ByteArray := prog_3_method_7_code
def yX1_rootAt : MethodName := ⟨RX1, "rootAt", "(I)I"⟩
abbrev cX1_holderAt : ByteArray := prog_3_method_8_code
def yX1_holderAt : MethodName := ⟨RX1, "holderAt", "(I)I"⟩
abbrev cX1_tellReferred : ByteArray := prog_3_method_9_code
def yX1_tellReferred : MethodName := ⟨RX1, "tellReferred", "(II)I"⟩
abbrev cX1_bring : ByteArray := prog_3_method_10_code
def yX1_bring : MethodName := ⟨RX1, "bring", "()I"⟩
abbrev cX1_letGo : ByteArray := prog_3_method_11_code
def yX1_letGo : MethodName := ⟨RX1, "letGo", "(I)V"⟩
abbrev cX1_forget : ByteArray := prog_3_method_12_code
def yX1_forget : MethodName := ⟨RX1, "forget", "([II)V"⟩
abbrev cX1_emptyHoldersOf : ByteArray := prog_3_method_13_code
def yX1_emptyHoldersOf : MethodName := ⟨RX1, "emptyHoldersOf", "(I)V"⟩
abbrev cX1_setOfRoots : ByteArray := prog_3_method_14_code
def yX1_setOfRoots : MethodName := ⟨RX1, "setOfRoots", "()I"⟩
abbrev cX1_behind : ByteArray := prog_3_method_15_code
def yX1_behind : MethodName := ⟨RX1, "behind", "(I)I"⟩
abbrev cX1_reachedFrom : ByteArray := prog_3_method_16_code
def yX1_reachedFrom : MethodName := ⟨RX1, "reachedFrom", "(II)I"⟩
abbrev cX1_reachedByRoots : ByteArray := prog_3_method_17_code
def yX1_reachedByRoots : MethodName := ⟨RX1, "reachedByRoots", "()I"⟩
abbrev cX1_reachedByAll : ByteArray := prog_3_method_18_code
def yX1_reachedByAll : MethodName := ⟨RX1, "reachedByAll", "()I"⟩
abbrev cX1_copyFrom : ByteArray := prog_3_method_20_code
def yX1_copyFrom : MethodName := ⟨RX1, "copyFrom", "(LReachedHeap$Graph;)V"⟩
def RX2 : String := "ReachedHeap$History"
def TX2 : u_T := fun k => match k with
  | 0 => ("ReachedHeap$History", "states", "[LReachedHeap$State;", true)
  | 1 => ("ReachedHeap$History", "first", "I", false)
  | _ => ("ReachedHeap$History", "size", "I", false)
def tyX2 : Nat → FieldType := fun k => match k with
  | 0 => .array (.object "ReachedHeap$State")
  | 1 => .int
  | _ => .int
abbrev wsX20 : List Cond := u_ws RX2 TX2 3
theorem nmX2 : ∀ a, a < 3 → ∀ b, b < 3 → a ≠ b → (TX2 a).2.1 ≠ (TX2 b).2.1 := by decide +kernel
theorem tyX2_ok : ∀ k, k < 3 → parseFieldDescriptor (TX2 k).2.2.1 = some (tyX2 k) := by decide +kernel
abbrev cX2_init : ByteArray := prog_4_method_1_code
def yX2_init : MethodName := ⟨RX2, "<init>", "()V"⟩
abbrev cX2_stateAt : ByteArray := prog_4_method_2_code
def yX2_stateAt : MethodName := ⟨RX2, "stateAt", "(I)LReachedHeap$State;"⟩
abbrev cX2_note : ByteArray := prog_4_method_3_code
def yX2_note : MethodName := ⟨RX2, "note", "(LReachedHeap$State;)V"⟩
abbrev cX2_settle : ByteArray := prog_4_method_4_code
def yX2_settle : MethodName := ⟨RX2, "settle", "(I)I"⟩
def RX3 : String := "ReachedHeap$Line"
def TX3 : u_T := fun k => match k with
  | 0 => ("ReachedHeap$Line", "numbers", "[I", true)
  | _ => ("ReachedHeap$Line", "length", "I", false)
def tyX3 : Nat → FieldType := fun k => match k with
  | 0 => .array .int
  | _ => .int
abbrev wsX30 : List Cond := u_ws RX3 TX3 2
theorem nmX3 : ∀ a, a < 2 → ∀ b, b < 2 → a ≠ b → (TX3 a).2.1 ≠ (TX3 b).2.1 := by decide +kernel
theorem tyX3_ok : ∀ k, k < 2 → parseFieldDescriptor (TX3 k).2.2.1 = some (tyX3 k) := by decide +kernel
abbrev cX3_init : ByteArray := prog_5_method_1_code
def yX3_init : MethodName := ⟨RX3, "<init>", "()V"⟩
abbrev cX3_append : ByteArray := prog_5_method_2_code
def yX3_append : MethodName := ⟨RX3, "append", "(I)V"⟩
abbrev cX3_at : ByteArray := prog_5_method_3_code
def yX3_at : MethodName := ⟨RX3, "at", "(I)I"⟩
abbrev cX3_takeFirst : ByteArray := prog_5_method_4_code
def yX3_takeFirst : MethodName := ⟨RX3, "takeFirst", "()I"⟩
abbrev cX3_placeOf : ByteArray := prog_5_method_5_code
def yX3_placeOf : MethodName := ⟨RX3, "placeOf", "(I)I"⟩
abbrev cX3_asSet : ByteArray := prog_5_method_6_code
def yX3_asSet : MethodName := ⟨RX3, "asSet", "()I"⟩
abbrev cX3_copyFrom : ByteArray := prog_5_method_7_code
def yX3_copyFrom : MethodName := ⟨RX3, "copyFrom", "(LReachedHeap$Line;)V"⟩
def RX4 : String := "ReachedHeap$Search"
def TX4 : u_T := fun k => match k with
  | 0 => ("ReachedHeap$Search", "part", "I", false)
  | 1 => ("ReachedHeap$Search", "greyOnes", "I", false)
  | 2 => ("ReachedHeap$Search", "blackOnes", "I", false)
  | 3 => ("ReachedHeap$Search", "row", "LReachedHeap$Line;", true)
  | 4 => ("ReachedHeap$Search", "sweepFrom", "I", false)
  | 5 => ("ReachedHeap$Search", "began", "I", false)
  | 6 => ("ReachedHeap$Search", "steps", "I", false)
  | 7 => ("ReachedHeap$Search", "goneNow", "I", false)
  | _ => ("ReachedHeap$Search", "goneEver", "I", false)
def tyX4 : Nat → FieldType := fun k => match k with
  | 0 => .int
  | 1 => .int
  | 2 => .int
  | 3 => .object "ReachedHeap$Line"
  | 4 => .int
  | 5 => .int
  | 6 => .int
  | 7 => .int
  | _ => .int
abbrev wsX40 : List Cond := u_ws RX4 TX4 9
theorem nmX4 : ∀ a, a < 9 → ∀ b, b < 9 → a ≠ b → (TX4 a).2.1 ≠ (TX4 b).2.1 := by decide +kernel
theorem tyX4_ok : ∀ k, k < 9 → parseFieldDescriptor (TX4 k).2.2.1 = some (tyX4 k) := by decide +kernel
abbrev cX4_init : ByteArray := prog_6_method_1_code
def yX4_init : MethodName := ⟨RX4, "<init>", "()V"⟩
abbrev cX4_isThere : ByteArray := prog_6_method_2_code
def yX4_isThere : MethodName := ⟨RX4, "isThere", "()Z"⟩
abbrev cX4_needsCare : ByteArray := prog_6_method_3_code
def yX4_needsCare : MethodName := ⟨RX4, "needsCare", "()Z"⟩
abbrev cX4_isBlack : ByteArray := prog_6_method_4_code
def yX4_isBlack : MethodName := ⟨RX4, "isBlack", "(I)Z"⟩
abbrev cX4_colourOf : ByteArray := prog_6_method_5_code
def yX4_colourOf : MethodName := ⟨RX4, "colourOf", "(I)I"⟩
abbrev cX4_whiteOnes : ByteArray := prog_6_method_6_code
def yX4_whiteOnes : MethodName := ⟨RX4, "whiteOnes", "(LReachedHeap$Graph;)I"⟩
abbrev cX4_shade : ByteArray := prog_6_method_7_code
def yX4_shade : MethodName := ⟨RX4, "shade", "(I)V"⟩
abbrev cX4_colourNewOne : ByteArray := prog_6_method_8_code
def yX4_colourNewOne : MethodName := ⟨RX4, "colourNewOne", "(I)V"⟩
abbrev cX4_open : ByteArray := prog_6_method_9_code
def yX4_open : MethodName := ⟨RX4, "open", "(LReachedHeap$Graph;)V"⟩
abbrev cX4_advance : ByteArray := prog_6_method_10_code
def yX4_advance : MethodName := ⟨RX4, "advance", "(LReachedHeap$Graph;)V"⟩
abbrev cX4_markFirst : ByteArray := prog_6_method_11_code
def yX4_markFirst : MethodName := ⟨RX4, "markFirst", "(LReachedHeap$Graph;)V"⟩
abbrev cX4_findToFinish : ByteArray := prog_6_method_12_code
def yX4_findToFinish : MethodName := ⟨RX4, "findToFinish", "(LReachedHeap$Graph;)V"⟩
abbrev cX4_sweep : ByteArray := prog_6_method_13_code
def yX4_sweep : MethodName := ⟨RX4, "sweep", "(LReachedHeap$Graph;)V"⟩
abbrev cX4_copyFrom : ByteArray := prog_6_method_14_code
def yX4_copyFrom : MethodName := ⟨RX4, "copyFrom", "(LReachedHeap$Search;)V"⟩
def RX5 : String := "ReachedHeap$State"
def TX5 : u_T := fun k => match k with
  | 0 => ("ReachedHeap$State", "graph", "LReachedHeap$Graph;", true)
  | 1 => ("ReachedHeap$State", "search", "LReachedHeap$Search;", true)
  | 2 => ("ReachedHeap$State", "beganBefore", "[I", true)
  | 3 => ("ReachedHeap$State", "care", "I", false)
  | 4 => ("ReachedHeap$State", "came", "I", false)
  | _ => ("ReachedHeap$State", "finished", "I", false)
def tyX5 : Nat → FieldType := fun k => match k with
  | 0 => .object "ReachedHeap$Graph"
  | 1 => .object "ReachedHeap$Search"
  | 2 => .array .int
  | 3 => .int
  | 4 => .int
  | _ => .int
abbrev wsX50 : List Cond := u_ws RX5 TX5 6
theorem nmX5 : ∀ a, a < 6 → ∀ b, b < 6 → a ≠ b → (TX5 a).2.1 ≠ (TX5 b).2.1 := by decide +kernel
theorem tyX5_ok : ∀ k, k < 6 → parseFieldDescriptor (TX5 k).2.2.1 = some (tyX5 k) := by decide +kernel
abbrev cX5_init : ByteArray := prog_7_method_1_code
def yX5_init : MethodName := ⟨RX5, "<init>", "()V"⟩
abbrev cX5_create : ByteArray := prog_7_method_2_code
def yX5_create : MethodName := ⟨RX5, "create", "(I)I"⟩
abbrev cX5_writeField : ByteArray := prog_7_method_3_code
def yX5_writeField : MethodName := ⟨RX5, "writeField", "(III)I"⟩
abbrev cX5_writeRoot : ByteArray := prog_7_method_4_code
def yX5_writeRoot : MethodName := ⟨RX5, "writeRoot", "(II)I"⟩
abbrev cX5_writeHolder : ByteArray := prog_7_method_5_code
def yX5_writeHolder : MethodName := ⟨RX5, "writeHolder", "(II)I"⟩
abbrev cX5_askHolder : ByteArray := prog_7_method_6_code
def yX5_askHolder : MethodName := ⟨RX5, "askHolder", "(II)I"⟩
abbrev cX5_wishFinish : ByteArray := prog_7_method_7_code
def yX5_wishFinish : MethodName := ⟨RX5, "wishFinish", "(I)I"⟩
abbrev cX5_finishFirst : ByteArray := prog_7_method_8_code
def yX5_finishFirst : MethodName := ⟨RX5, "finishFirst", "(I)I"⟩
abbrev cX5_referRoot : ByteArray := prog_7_method_9_code
def yX5_referRoot : MethodName := ⟨RX5, "referRoot", "(II)V"⟩
abbrev cX5_takeCare : ByteArray := prog_7_method_10_code
def yX5_takeCare : MethodName := ⟨RX5, "takeCare", "(ZII)V"⟩
abbrev cX5_shadeIfCareIsNeeded : ByteArray := prog_7_method_11_code
def yX5_shadeIfCareIsNeeded : MethodName := ⟨RX5, "shadeIfCareIsNeeded", "(I)V"⟩
abbrev cX5_beginSearch : ByteArray := prog_7_method_12_code
def yX5_beginSearch : MethodName := ⟨RX5, "beginSearch", "()I"⟩
abbrev cX5_doSteps : ByteArray := prog_7_method_13_code
def yX5_doSteps : MethodName := ⟨RX5, "doSteps", "(I)I"⟩
abbrev cX5_doAllSteps : ByteArray := prog_7_method_14_code
def yX5_doAllSteps : MethodName := ⟨RX5, "doAllSteps", "()I"⟩
abbrev cX5_setCare : ByteArray := prog_7_method_15_code
def yX5_setCare : MethodName := ⟨RX5, "setCare", "(I)I"⟩
abbrev cX5_tellObject : ByteArray := prog_7_method_16_code
def yX5_tellObject : MethodName := ⟨RX5, "tellObject", "(II)I"⟩
abbrev cX5_tellSet : ByteArray := prog_7_method_17_code
def yX5_tellSet : MethodName := ⟨RX5, "tellSet", "(I)I"⟩
abbrev cX5_tellNumber : ByteArray := prog_7_method_18_code
def yX5_tellNumber : MethodName := ⟨RX5, "tellNumber", "(I)I"⟩
abbrev cX5_copyFrom : ByteArray := prog_7_method_20_code
def yX5_copyFrom : MethodName := ⟨RX5, "copyFrom", "(LReachedHeap$State;)V"⟩
def RX6 : String := "ReachedHeap"
def TX6 : u_T := fun k => match k with
  | 0 => ("ReachedHeap", "state", "LReachedHeap$State;", true)
  | 1 => ("ReachedHeap", "ahead", "LReachedHeap$State;", true)
  | 2 => ("ReachedHeap", "kept", "LReachedHeap$State;", true)
  | 3 => ("ReachedHeap", "history", "LReachedHeap$History;", true)
  | 4 => ("ReachedHeap", "commands", "LReachedHeap$Commands;", true)
  | _ => ("ReachedHeap", "isKept", "Z", false)
def tyX6 : Nat → FieldType := fun k => match k with
  | 0 => .object "ReachedHeap$State"
  | 1 => .object "ReachedHeap$State"
  | 2 => .object "ReachedHeap$State"
  | 3 => .object "ReachedHeap$History"
  | 4 => .object "ReachedHeap$Commands"
  | _ => .boolean
abbrev wsX60 : List Cond := u_ws RX6 TX6 6
theorem nmX6 : ∀ a, a < 6 → ∀ b, b < 6 → a ≠ b → (TX6 a).2.1 ≠ (TX6 b).2.1 := by decide +kernel
theorem tyX6_ok : ∀ k, k < 6 → parseFieldDescriptor (TX6 k).2.2.1 = some (tyX6 k) := by decide +kernel
abbrev cX6_init : ByteArray := prog_1_method_1_code
def yX6_init : MethodName := ⟨RX6, "<init>", "()V"⟩
abbrev cX6_make : ByteArray := prog_1_method_2_code
def yX6_make : MethodName := ⟨RX6, "make", "(I)I"⟩
abbrev cX6_field : ByteArray := prog_1_method_3_code
def yX6_field : MethodName := ⟨RX6, "field", "(III)I"⟩
abbrev cX6_root : ByteArray := prog_1_method_4_code
def yX6_root : MethodName := ⟨RX6, "root", "(II)I"⟩
abbrev cX6_weak : ByteArray := prog_1_method_5_code
def yX6_weak : MethodName := ⟨RX6, "weak", "(II)I"⟩
abbrev cX6_ask : ByteArray := prog_1_method_6_code
def yX6_ask : MethodName := ⟨RX6, "ask", "(II)I"⟩
abbrev cX6_want : ByteArray := prog_1_method_7_code
def yX6_want : MethodName := ⟨RX6, "want", "(I)I"⟩
abbrev cX6_finish : ByteArray := prog_1_method_8_code
def yX6_finish : MethodName := ⟨RX6, "finish", "(I)I"⟩
abbrev cX6_begin : ByteArray := prog_1_method_9_code
def yX6_begin : MethodName := ⟨RX6, "begin", "()I"⟩
abbrev cX6_step : ByteArray := prog_1_method_10_code
def yX6_step : MethodName := ⟨RX6, "step", "(I)I"⟩
abbrev cX6_all : ByteArray := prog_1_method_11_code
def yX6_all : MethodName := ⟨RX6, "all", "()I"⟩
abbrev cX6_set : ByteArray := prog_1_method_12_code
def yX6_set : MethodName := ⟨RX6, "set", "(I)I"⟩
abbrev cX6_objectOf : ByteArray := prog_1_method_13_code
def yX6_objectOf : MethodName := ⟨RX6, "objectOf", "(II)I"⟩
abbrev cX6_refers : ByteArray := prog_1_method_14_code
def yX6_refers : MethodName := ⟨RX6, "refers", "(II)I"⟩
abbrev cX6_grey : ByteArray := prog_1_method_15_code
def yX6_grey : MethodName := ⟨RX6, "grey", "(I)I"⟩
abbrev cX6_objects : ByteArray := prog_1_method_16_code
def yX6_objects : MethodName := ⟨RX6, "objects", "(I)I"⟩
abbrev cX6_count : ByteArray := prog_1_method_17_code
def yX6_count : MethodName := ⟨RX6, "count", "(I)I"⟩
abbrev cX6_bit : ByteArray := prog_1_method_29_code
def yX6_bit : MethodName := ⟨RX6, "bit", "(I)I"⟩
abbrev cX6_isIn : ByteArray := prog_1_method_30_code
def yX6_isIn : MethodName := ⟨RX6, "isIn", "(II)Z"⟩
abbrev cX6_isError : ByteArray := prog_1_method_31_code
def yX6_isError : MethodName := ⟨RX6, "isError", "(I)Z"⟩
abbrev cX6_lowestOf : ByteArray := prog_1_method_32_code
def yX6_lowestOf : MethodName := ⟨RX6, "lowestOf", "(II)I"⟩
def RX7 : String := "ReachedHeapModel"
def TX7 : u_T := fun k => match k with
  | _ => ("", "", "", false)
def tyX7 : Nat → FieldType := fun k => match k with
  | _ => .int
abbrev wsX70 : List Cond := u_ws RX7 TX7 0
theorem nmX7 : ∀ a, a < 0 → ∀ b, b < 0 → a ≠ b → (TX7 a).2.1 ≠ (TX7 b).2.1 := by decide +kernel
theorem tyX7_ok : ∀ k, k < 0 → parseFieldDescriptor (TX7 k).2.2.1 = some (tyX7 k) := by decide +kernel
def RJ6 : String := "java/lang/Integer"
def TJ6 : u_T := fun k => match k with
  | _ => ("", "", "", false)
def tyJ6 : Nat → FieldType := fun k => match k with
  | _ => .int
abbrev wsJ60 : List Cond := u_ws RJ6 TJ6 0
theorem nmJ6 : ∀ a, a < 0 → ∀ b, b < 0 → a ≠ b → (TJ6 a).2.1 ≠ (TJ6 b).2.1 := by decide +kernel
theorem tyJ6_ok : ∀ k, k < 0 → parseFieldDescriptor (TJ6 k).2.2.1 = some (tyJ6 k) := by decide +kernel
abbrev cJ6_bitCount_0f7a4 : ByteArray := prog_10_method_49_code
def yJ6_bitCount_0f7a4 : MethodName := ⟨RJ6, "bitCount", "(I)I"⟩
def RJ9 : String := "java/lang/Math"
def TJ9 : u_T := fun k => match k with
  | _ => ("", "", "", false)
def tyJ9 : Nat → FieldType := fun k => match k with
  | _ => .int
abbrev wsJ90 : List Cond := u_ws RJ9 TJ9 0
theorem nmJ9 : ∀ a, a < 0 → ∀ b, b < 0 → a ≠ b → (TJ9 a).2.1 ≠ (TJ9 b).2.1 := by decide +kernel
theorem tyJ9_ok : ∀ k, k < 0 → parseFieldDescriptor (TJ9 k).2.2.1 = some (tyJ9 k) := by decide +kernel
abbrev cJ9_floorMod_7cf53 : ByteArray := prog_11_method_50_code
def yJ9_floorMod_7cf53 : MethodName := ⟨RJ9, "floorMod", "(II)I"⟩
abbrev cJ9_max_7cf53 : ByteArray := prog_11_method_65_code
def yJ9_max_7cf53 : MethodName := ⟨RJ9, "max", "(II)I"⟩
def RJ10 : String := "java/lang/System"
def TJ10 : u_T := fun k => match k with
  | _ => ("", "", "", false)
def tyJ10 : Nat → FieldType := fun k => match k with
  | _ => .int
abbrev wsJ100 : List Cond := u_ws RJ10 TJ10 0
theorem nmJ10 : ∀ a, a < 0 → ∀ b, b < 0 → a ≠ b → (TJ10 a).2.1 ≠ (TJ10 b).2.1 := by decide +kernel
theorem tyJ10_ok : ∀ k, k < 0 → parseFieldDescriptor (TJ10 k).2.2.1 = some (tyJ10 k) := by decide +kernel
def RJ7 : String := "java/util/Arrays"
def TJ7 : u_T := fun k => match k with
  | _ => ("", "", "", false)
def tyJ7 : Nat → FieldType := fun k => match k with
  | _ => .int
abbrev wsJ70 : List Cond := u_ws RJ7 TJ7 0
theorem nmJ7 : ∀ a, a < 0 → ∀ b, b < 0 → a ≠ b → (TJ7 a).2.1 ≠ (TJ7 b).2.1 := by decide +kernel
theorem tyJ7_ok : ∀ k, k < 0 → parseFieldDescriptor (TJ7 k).2.2.1 = some (tyJ7 k) := by decide +kernel
abbrev cJ7_fill_53178 : ByteArray := prog_13_method_103_code
def yJ7_fill_53178 : MethodName := ⟨RJ7, "fill", "([II)V"⟩
def RL : String := "ReachedHeapLaw"
abbrev cL_cell : ByteArray := method_2_code
def yL_cell : MethodName := ⟨RL, "cell", "([II)I"⟩
abbrev cL_low : ByteArray := method_3_code
def yL_low : MethodName := ⟨RL, "low", "(II)I"⟩
abbrev cL_at : ByteArray := method_4_code
def yL_at : MethodName := ⟨RL, "at", "([II)I"⟩
abbrev cL_put : ByteArray := method_5_code
def yL_put : MethodName := ⟨RL, "put", "([III)V"⟩
abbrev cL_spread : ByteArray := method_6_code
def yL_spread : MethodName := ⟨RL, "spread", "([III)I"⟩
abbrev cL_rooted : ByteArray := method_7_code
def yL_rooted : MethodName := ⟨RL, "rooted", "([I[II)I"⟩
abbrev cL_reached : ByteArray := method_8_code
def yL_reached : MethodName := ⟨RL, "reached", "([I[I[I[I)I"⟩
abbrev cL_shade : ByteArray := method_9_code
def yL_shade : MethodName := ⟨RL, "shade", "([I[I[II)V"⟩
abbrev cL_care : ByteArray := method_10_code
def yL_care : MethodName := ⟨RL, "care", "([I[I[IIIZ)V"⟩
abbrev cL_writeRoot : ByteArray := method_11_code
def yL_writeRoot : MethodName := ⟨RL, "writeRoot", "([I[I[I[III)I"⟩
abbrev cL_start : ByteArray := method_12_code
def yL_start : MethodName := ⟨RL, "start", "([I[I[I[I[I[I)V"⟩
abbrev cL_sweep : ByteArray := method_13_code
def yL_sweep : MethodName := ⟨RL, "sweep", "([I[I[I[I)V"⟩
abbrev cL_go : ByteArray := method_14_code
def yL_go : MethodName := ⟨RL, "go", "([I[I[I[I[I[I[I)V"⟩
abbrev cL_searches : ByteArray := method_15_code
def yL_searches : MethodName := ⟨RL, "searches", "(LReachedHeap;[I[I[I[I[I[I[I[III)Z"⟩
abbrev cL_writes : ByteArray := method_16_code
def yL_writes : MethodName := ⟨RL, "writes", "(LReachedHeap;[I[I[I[I[I[I[I[III)Z"⟩
abbrev cL_acts : ByteArray := method_17_code
def yL_acts : MethodName := ⟨RL, "acts", "(LReachedHeap;[I[I[I[I[I[I[I[II)Z"⟩
abbrev cL_areObjects : ByteArray := method_18_code
def yL_areObjects : MethodName := ⟨RL, "areObjects", "(LReachedHeap;[I[I[I[I[I[I[I)Z"⟩
abbrev cL_isSo : ByteArray := method_19_code
def yL_isSo : MethodName := ⟨RL, "isSo", "(LReachedHeap;[I[I[I[I[I[I[I[I)Z"⟩
abbrev cL_law : ByteArray := code
def yL_law : MethodName := ⟨RL, "law", "([I)Z"⟩
abbrev vwCl : List vw_C := [(RX0, TX0, 11), (RX1, TX1, 6), (RX2, TX2, 3), (RX3, TX3, 2), (RX4, TX4, 9), (RX5, TX5, 6), (RX6, TX6, 6)]
theorem tb_mem1 {w : Cond} (h : w ∈ tables_1) : w ∈ lw_tbl := List.mem_append_right _ h
theorem tb_1 (i : Nat) {w : Cond} (h : tables_1_1[i]? = some w) : w ∈ lw_tbl := tb_mem1 (List.mem_append_left _ (List.mem_of_getElem? h))
theorem tb_2 (i : Nat) {w : Cond} (h : tables_1_2[i]? = some w) : w ∈ lw_tbl := tb_mem1 (List.mem_append_right _ (List.mem_append_left _ (List.mem_of_getElem? h)))
theorem tb_3 (i : Nat) {w : Cond} (h : tables_1_3[i]? = some w) : w ∈ lw_tbl := tb_mem1 (List.mem_append_right _ (List.mem_append_right _ (List.mem_of_getElem? h)))
theorem tb_sel (q : MethodName × Nat) (h : q ∈ lw_privs) : Cond.selects q.1.cls q.1 q.1 ∈ lw_tbl := List.mem_append_left _ (List.mem_map.mpr ⟨q, h, rfl⟩)
def lw_g : List Cond := lw_tbl.filter goodWord
theorem lw_g_in {w : Cond} (h : w ∈ lw_tbl) (hg : goodWord w = true) : w ∈ lw_g := List.mem_filter.mpr ⟨h, hg⟩
theorem lw_g_tb {w : Cond} (h : w ∈ lw_g) : w ∈ lw_tbl := (List.mem_filter.mp h).1
theorem gi_g {big ws : List Cond} (hb : ∀ w ∈ lw_g, w ∈ big) (h : ∀ w ∈ ws, w ∈ lw_g) : GoodIn big ws := fun w hw => ⟨hb w (h w hw), good_of_word (List.mem_filter.mp (h w hw)).2⟩
theorem tb1 (i : Nat) {w : Cond} (h : tables_1_1[i]? = some w) (hg : goodWord w = true := by rfl) : w ∈ lw_g := lw_g_in (tb_1 i h) hg
theorem tb2 (i : Nat) {w : Cond} (h : tables_1_2[i]? = some w) (hg : goodWord w = true := by rfl) : w ∈ lw_g := lw_g_in (tb_2 i h) hg
theorem tb3 (i : Nat) {w : Cond} (h : tables_1_3[i]? = some w) (hg : goodWord w = true := by rfl) : w ∈ lw_g := lw_g_in (tb_3 i h) hg
theorem tbs (q : MethodName × Nat) (h : q ∈ lw_privs) : Cond.selects q.1.cls q.1 q.1 ∈ lw_g := lw_g_in (tb_sel q h) rfl
set_option maxRecDepth 100000 in
theorem inX0 : ∀ w ∈ wsX00, w ∈ lw_g := by decide +kernel
set_option maxRecDepth 100000 in
theorem inX1 : ∀ w ∈ wsX10, w ∈ lw_g := by decide +kernel
set_option maxRecDepth 100000 in
theorem inX2 : ∀ w ∈ wsX20, w ∈ lw_g := by decide +kernel
set_option maxRecDepth 100000 in
theorem inX3 : ∀ w ∈ wsX30, w ∈ lw_g := by decide +kernel
set_option maxRecDepth 100000 in
theorem inX4 : ∀ w ∈ wsX40, w ∈ lw_g := by decide +kernel
set_option maxRecDepth 100000 in
theorem inX5 : ∀ w ∈ wsX50, w ∈ lw_g := by decide +kernel
set_option maxRecDepth 100000 in
theorem inX6 : ∀ w ∈ wsX60, w ∈ lw_g := by decide +kernel
