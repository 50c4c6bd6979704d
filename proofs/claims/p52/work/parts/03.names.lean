def RX0 : String := "HashLab$Bits"
def TX0 : u_T := fun k => match k with
  | _ => ("", "", "", false)
def tyX0 : Nat → FieldType := fun k => match k with
  | _ => .int
abbrev wsX00 : List Cond := u_ws RX0 TX0 0
theorem nmX0 : ∀ a, a < 0 → ∀ b, b < 0 → a ≠ b → (TX0 a).2.1 ≠ (TX0 b).2.1 := by decide +kernel
theorem tyX0_ok : ∀ k, k < 0 → parseFieldDescriptor (TX0 k).2.2.1 = some (tyX0 k) := by decide +kernel
abbrev cX0_ofMean : ByteArray := prog_2_method_2_code
def yX0_ofMean : MethodName := ⟨RX0, "ofMean", "(D)J"⟩
abbrev cX0_ofShare : ByteArray := prog_2_method_3_code
def yX0_ofShare : MethodName := ⟨RX0, "ofShare", "(F)I"⟩
def RX1 : String := "HashLab$Clusters"
def TX1 : u_T := fun k => match k with
  | _ => ("", "", "", false)
def tyX1 : Nat → FieldType := fun k => match k with
  | _ => .int
abbrev wsX10 : List Cond := u_ws RX1 TX1 0
theorem nmX1 : ∀ a, a < 0 → ∀ b, b < 0 → a ≠ b → (TX1 a).2.1 ≠ (TX1 b).2.1 := by decide +kernel
theorem tyX1_ok : ∀ k, k < 0 → parseFieldDescriptor (TX1 k).2.2.1 = some (tyX1 k) := by decide +kernel
abbrev cX1_number : ByteArray := prog_3_method_2_code
def yX1_number : MethodName := ⟨RX1, "number", "(LHashLab$Table;)I"⟩
abbrev cX1_sizeAt : ByteArray := prog_3_method_3_code
def yX1_sizeAt : MethodName := ⟨RX1, "sizeAt", "(LHashLab$Table;I)I"⟩
abbrev cX1_largestAround : ByteArray := prog_3_method_4_code
def yX1_largestAround : MethodName := ⟨RX1, "largestAround", "(LHashLab$Table;)I"⟩
abbrev cX1_largestOfHalves : ByteArray := prog_3_method_5_code
def yX1_largestOfHalves : MethodName := ⟨RX1, "largestOfHalves", "(LHashLab$Table;)I"⟩
abbrev cX1_largestIn : ByteArray := prog_3_method_6_code
def yX1_largestIn : MethodName := ⟨RX1, "largestIn", "(LHashLab$Table;III)I"⟩
abbrev cX1_usedBefore : ByteArray := prog_3_method_7_code
def yX1_usedBefore : MethodName := ⟨RX1, "usedBefore", "(LHashLab$Table;II)I"⟩
abbrev cX1_usedFrom : ByteArray := prog_3_method_8_code
def yX1_usedFrom : MethodName := ⟨RX1, "usedFrom", "(LHashLab$Table;II)I"⟩
def RX2 : String := "HashLab$History"
def TX2 : u_T := fun k => match k with
  | 0 => ("HashLab$History", "past", "[LHashLab$Table;", true)
  | 1 => ("HashLab$History", "newest", "I", false)
  | _ => ("HashLab$History", "count", "I", false)
def tyX2 : Nat → FieldType := fun k => match k with
  | 0 => .array (.object "HashLab$Table")
  | 1 => .int
  | _ => .int
abbrev wsX20 : List Cond := u_ws RX2 TX2 3
theorem nmX2 : ∀ a, a < 3 → ∀ b, b < 3 → a ≠ b → (TX2 a).2.1 ≠ (TX2 b).2.1 := by decide +kernel
theorem tyX2_ok : ∀ k, k < 3 → parseFieldDescriptor (TX2 k).2.2.1 = some (tyX2 k) := by decide +kernel
abbrev cX2_init : ByteArray := prog_4_method_1_code
def yX2_init : MethodName := ⟨RX2, "<init>", "()V"⟩
abbrev cX2_record : ByteArray := prog_4_method_2_code
def yX2_record : MethodName := ⟨RX2, "record", "(LHashLab$Table;)V"⟩
abbrev cX2_newestState : ByteArray := prog_4_method_5_code
def yX2_newestState : MethodName := ⟨RX2, "newestState", "()LHashLab$Table;"⟩
def RX3 : String := "HashLab$Line"
def TX3 : u_T := fun k => match k with
  | 0 => ("HashLab$Line", "signs", "[C", true)
  | _ => ("HashLab$Line", "length", "I", false)
def tyX3 : Nat → FieldType := fun k => match k with
  | 0 => .array .char
  | _ => .int
abbrev wsX30 : List Cond := u_ws RX3 TX3 2
theorem nmX3 : ∀ a, a < 2 → ∀ b, b < 2 → a ≠ b → (TX3 a).2.1 ≠ (TX3 b).2.1 := by decide +kernel
theorem tyX3_ok : ∀ k, k < 2 → parseFieldDescriptor (TX3 k).2.2.1 = some (tyX3 k) := by decide +kernel
abbrev cX3_init : ByteArray := prog_5_method_1_code
def yX3_init : MethodName := ⟨RX3, "<init>", "()V"⟩
abbrev cX3_empty : ByteArray := prog_5_method_2_code
def yX3_empty : MethodName := ⟨RX3, "empty", "()V"⟩
abbrev cX3_add : ByteArray := prog_5_method_3_code
def yX3_add : MethodName := ⟨RX3, "add", "(C)V"⟩
abbrev cX3_addNumber : ByteArray := prog_5_method_4_code
def yX3_addNumber : MethodName := ⟨RX3, "addNumber", "(I)V"⟩
abbrev cX3_signAt : ByteArray := prog_5_method_5_code
def yX3_signAt : MethodName := ⟨RX3, "signAt", "(I)C"⟩
def RX4 : String := "HashLab$Program"
def TX4 : u_T := fun k => match k with
  | 0 => ("HashLab$Program", "signs", "[C", true)
  | 1 => ("HashLab$Program", "verbs", "[I", true)
  | 2 => ("HashLab$Program", "operands", "[I", true)
  | 3 => ("HashLab$Program", "values", "[I", true)
  | 4 => ("HashLab$Program", "length", "I", false)
  | 5 => ("HashLab$Program", "position", "I", false)
  | _ => ("HashLab$Program", "count", "I", false)
def tyX4 : Nat → FieldType := fun k => match k with
  | 0 => .array .char
  | 1 => .array .int
  | 2 => .array .int
  | 3 => .array .int
  | 4 => .int
  | 5 => .int
  | _ => .int
abbrev wsX40 : List Cond := u_ws RX4 TX4 7
theorem nmX4 : ∀ a, a < 7 → ∀ b, b < 7 → a ≠ b → (TX4 a).2.1 ≠ (TX4 b).2.1 := by decide +kernel
theorem tyX4_ok : ∀ k, k < 7 → parseFieldDescriptor (TX4 k).2.2.1 = some (tyX4 k) := by decide +kernel
abbrev cX4_init : ByteArray := prog_6_method_1_code
def yX4_init : MethodName := ⟨RX4, "<init>", "()V"⟩
def RX5 : String := "HashLab$Table"
def TX5 : u_T := fun k => match k with
  | 0 => ("HashLab$Table", "keys", "[I", true)
  | 1 => ("HashLab$Table", "values", "[I", true)
  | 2 => ("HashLab$Table", "oldKeys", "[I", true)
  | 3 => ("HashLab$Table", "oldValues", "[I", true)
  | 4 => ("HashLab$Table", "capacity", "I", false)
  | 5 => ("HashLab$Table", "kind", "I", false)
  | 6 => ("HashLab$Table", "seed", "I", false)
  | 7 => ("HashLab$Table", "limit", "I", false)
  | 8 => ("HashLab$Table", "full", "I", false)
  | 9 => ("HashLab$Table", "tombs", "I", false)
  | 10 => ("HashLab$Table", "rebuilt", "I", false)
  | _ => ("HashLab$Table", "grown", "I", false)
def tyX5 : Nat → FieldType := fun k => match k with
  | 0 => .array .int
  | 1 => .array .int
  | 2 => .array .int
  | 3 => .array .int
  | 4 => .int
  | 5 => .int
  | 6 => .int
  | 7 => .int
  | 8 => .int
  | 9 => .int
  | 10 => .int
  | _ => .int
abbrev wsX50 : List Cond := u_ws RX5 TX5 12
theorem nmX5 : ∀ a, a < 12 → ∀ b, b < 12 → a ≠ b → (TX5 a).2.1 ≠ (TX5 b).2.1 := by decide +kernel
theorem tyX5_ok : ∀ k, k < 12 → parseFieldDescriptor (TX5 k).2.2.1 = some (tyX5 k) := by decide +kernel
abbrev cX5_init : ByteArray := prog_7_method_1_code
def yX5_init : MethodName := ⟨RX5, "<init>", "()V"⟩
abbrev cX5_copyFrom : ByteArray := prog_7_method_2_code
def yX5_copyFrom : MethodName := ⟨RX5, "copyFrom", "(LHashLab$Table;)V"⟩
abbrev cX5_empty : ByteArray := prog_7_method_3_code
def yX5_empty : MethodName := ⟨RX5, "empty", "(I)V"⟩
abbrev cX5_beginTrial : ByteArray := prog_7_method_4_code
def yX5_beginTrial : MethodName := ⟨RX5, "beginTrial", "(III)V"⟩
abbrev cX5_hasSlot : ByteArray := prog_7_method_5_code
def yX5_hasSlot : MethodName := ⟨RX5, "hasSlot", "(I)Z"⟩
abbrev cX5_content : ByteArray := prog_7_method_6_code
def yX5_content : MethodName := ⟨RX5, "content", "(I)I"⟩
abbrev cX5_valueOf : ByteArray := prog_7_method_7_code
def yX5_valueOf : MethodName := ⟨RX5, "valueOf", "(I)I"⟩
abbrev cX5_isUsed : ByteArray := prog_7_method_8_code
def yX5_isUsed : MethodName := ⟨RX5, "isUsed", "(I)Z"⟩
abbrev cX5_isFullSlot : ByteArray := prog_7_method_9_code
def yX5_isFullSlot : MethodName := ⟨RX5, "isFullSlot", "(I)Z"⟩
abbrev cX5_hashOf : ByteArray := prog_7_method_10_code
def yX5_hashOf : MethodName := ⟨RX5, "hashOf", "(I)I"⟩
abbrev cX5_strideOf : ByteArray := prog_7_method_11_code
def yX5_strideOf : MethodName := ⟨RX5, "strideOf", "(I)I"⟩
abbrev cX5_slotInSequence : ByteArray := prog_7_method_12_code
def yX5_slotInSequence : MethodName := ⟨RX5, "slotInSequence", "(II)I"⟩
abbrev cX5_searchLength : ByteArray := prog_7_method_13_code
def yX5_searchLength : MethodName := ⟨RX5, "searchLength", "(I)I"⟩
abbrev cX5_slotHolding : ByteArray := prog_7_method_14_code
def yX5_slotHolding : MethodName := ⟨RX5, "slotHolding", "(I)I"⟩
abbrev cX5_distanceTo : ByteArray := prog_7_method_15_code
def yX5_distanceTo : MethodName := ⟨RX5, "distanceTo", "(II)I"⟩
abbrev cX5_keyAfter : ByteArray := prog_7_method_16_code
def yX5_keyAfter : MethodName := ⟨RX5, "keyAfter", "(I)I"⟩
abbrev cX5_needsRebuild : ByteArray := prog_7_method_17_code
def yX5_needsRebuild : MethodName := ⟨RX5, "needsRebuild", "()Z"⟩
abbrev cX5_hasRoom : ByteArray := prog_7_method_18_code
def yX5_hasRoom : MethodName := ⟨RX5, "hasRoom", "()Z"⟩
abbrev cX5_enter : ByteArray := prog_7_method_19_code
def yX5_enter : MethodName := ⟨RX5, "enter", "(II)Z"⟩
abbrev cX5_bury : ByteArray := prog_7_method_20_code
def yX5_bury : MethodName := ⟨RX5, "bury", "(I)Z"⟩
abbrev cX5_changeKind : ByteArray := prog_7_method_21_code
def yX5_changeKind : MethodName := ⟨RX5, "changeKind", "(I)V"⟩
abbrev cX5_changeSeed : ByteArray := prog_7_method_22_code
def yX5_changeSeed : MethodName := ⟨RX5, "changeSeed", "(I)V"⟩
abbrev cX5_rebuildWith : ByteArray := prog_7_method_23_code
def yX5_rebuildWith : MethodName := ⟨RX5, "rebuildWith", "(I)V"⟩
abbrev cX5_meanSearchLength : ByteArray := prog_7_method_24_code
def yX5_meanSearchLength : MethodName := ⟨RX5, "meanSearchLength", "()D"⟩
abbrev cX5_share : ByteArray := prog_7_method_25_code
def yX5_share : MethodName := ⟨RX5, "share", "()F"⟩
abbrev cX5_bothCountsAgree : ByteArray := prog_7_method_26_code
def yX5_bothCountsAgree : MethodName := ⟨RX5, "bothCountsAgree", "()Z"⟩
abbrev cX5_sequencesVisitAllSlots : ByteArray := prog_7_method_27_code
def yX5_sequencesVisitAllSlots : MethodName := ⟨RX5, "sequencesVisitAllSlots", "()Z"⟩
abbrev cX5_hasKeysOf : ByteArray := prog_7_method_28_code
def yX5_hasKeysOf : MethodName := ⟨RX5, "hasKeysOf", "(LHashLab$Table;)Z"⟩
abbrev cX5_isInRows : ByteArray := prog_7_method_29_code
def yX5_isInRows : MethodName := ⟨RX5, "isInRows", "(I)Z"⟩
abbrev cX5_wrap : ByteArray := prog_7_method_30_code
def yX5_wrap : MethodName := ⟨RX5, "wrap", "(I)I"⟩
abbrev cX5_offsetAt : ByteArray := prog_7_method_31_code
def yX5_offsetAt : MethodName := ⟨RX5, "offsetAt", "(II)I"⟩
abbrev cX5_exceedsLimit : ByteArray := prog_7_method_32_code
def yX5_exceedsLimit : MethodName := ⟨RX5, "exceedsLimit", "(II)Z"⟩
abbrev cX5_nextCapacity : ByteArray := prog_7_method_33_code
def yX5_nextCapacity : MethodName := ⟨RX5, "nextCapacity", "()I"⟩
abbrev cX5_place : ByteArray := prog_7_method_34_code
def yX5_place : MethodName := ⟨RX5, "place", "(II)V"⟩
abbrev cX5_numberVisited : ByteArray := prog_7_method_35_code
def yX5_numberVisited : MethodName := ⟨RX5, "numberVisited", "(I)I"⟩
def RX6 : String := "HashLab"
def TX6 : u_T := fun k => match k with
  | 0 => ("HashLab", "table", "LHashLab$Table;", true)
  | 1 => ("HashLab", "spare", "LHashLab$Table;", true)
  | 2 => ("HashLab", "before", "LHashLab$Table;", true)
  | 3 => ("HashLab", "saved", "LHashLab$Table;", true)
  | 4 => ("HashLab", "history", "LHashLab$History;", true)
  | 5 => ("HashLab", "program", "LHashLab$Program;", true)
  | 6 => ("HashLab", "line", "LHashLab$Line;", true)
  | 7 => ("HashLab", "isSaved", "Z", false)
  | 8 => ("HashLab", "recordedPosition", "I", false)
  | _ => ("HashLab", "recordedCommand", "I", false)
def tyX6 : Nat → FieldType := fun k => match k with
  | 0 => .object "HashLab$Table"
  | 1 => .object "HashLab$Table"
  | 2 => .object "HashLab$Table"
  | 3 => .object "HashLab$Table"
  | 4 => .object "HashLab$History"
  | 5 => .object "HashLab$Program"
  | 6 => .object "HashLab$Line"
  | 7 => .boolean
  | 8 => .int
  | _ => .int
abbrev wsX60 : List Cond := u_ws RX6 TX6 10
theorem nmX6 : ∀ a, a < 10 → ∀ b, b < 10 → a ≠ b → (TX6 a).2.1 ≠ (TX6 b).2.1 := by decide +kernel
theorem tyX6_ok : ∀ k, k < 10 → parseFieldDescriptor (TX6 k).2.2.1 = some (tyX6 k) := by decide +kernel
abbrev cX6_init : ByteArray := prog_1_method_1_code
def yX6_init : MethodName := ⟨RX6, "<init>", "()V"⟩
abbrev cX6_put : ByteArray := prog_1_method_2_code
def yX6_put : MethodName := ⟨RX6, "put", "(II)Z"⟩
abbrev cX6_remove : ByteArray := prog_1_method_3_code
def yX6_remove : MethodName := ⟨RX6, "remove", "(I)I"⟩
abbrev cX6_rebuild : ByteArray := prog_1_method_4_code
def yX6_rebuild : MethodName := ⟨RX6, "rebuild", "()I"⟩
abbrev cX6_setKind : ByteArray := prog_1_method_5_code
def yX6_setKind : MethodName := ⟨RX6, "setKind", "(I)I"⟩
abbrev cX6_setSeed : ByteArray := prog_1_method_6_code
def yX6_setSeed : MethodName := ⟨RX6, "setSeed", "(I)I"⟩
abbrev cX6_setLimit : ByteArray := prog_1_method_7_code
def yX6_setLimit : MethodName := ⟨RX6, "setLimit", "(I)I"⟩
abbrev cX6_clear : ByteArray := prog_1_method_8_code
def yX6_clear : MethodName := ⟨RX6, "clear", "()I"⟩
abbrev cX6_size : ByteArray := prog_1_method_9_code
def yX6_size : MethodName := ⟨RX6, "size", "()I"⟩
abbrev cX6_capacity : ByteArray := prog_1_method_10_code
def yX6_capacity : MethodName := ⟨RX6, "capacity", "()I"⟩
abbrev cX6_tombstones : ByteArray := prog_1_method_11_code
def yX6_tombstones : MethodName := ⟨RX6, "tombstones", "()I"⟩
abbrev cX6_kind : ByteArray := prog_1_method_12_code
def yX6_kind : MethodName := ⟨RX6, "kind", "()I"⟩
abbrev cX6_seed : ByteArray := prog_1_method_13_code
def yX6_seed : MethodName := ⟨RX6, "seed", "()I"⟩
abbrev cX6_limit : ByteArray := prog_1_method_14_code
def yX6_limit : MethodName := ⟨RX6, "limit", "()I"⟩
abbrev cX6_rebuilds : ByteArray := prog_1_method_15_code
def yX6_rebuilds : MethodName := ⟨RX6, "rebuilds", "()I"⟩
abbrev cX6_growths : ByteArray := prog_1_method_16_code
def yX6_growths : MethodName := ⟨RX6, "growths", "()I"⟩
abbrev cX6_isNearLimit : ByteArray := prog_1_method_17_code
def yX6_isNearLimit : MethodName := ⟨RX6, "isNearLimit", "()Z"⟩
abbrev cX6_contains : ByteArray := prog_1_method_18_code
def yX6_contains : MethodName := ⟨RX6, "contains", "(I)Z"⟩
abbrev cX6_get : ByteArray := prog_1_method_19_code
def yX6_get : MethodName := ⟨RX6, "get", "(I)I"⟩
abbrev cX6_slotOf : ByteArray := prog_1_method_20_code
def yX6_slotOf : MethodName := ⟨RX6, "slotOf", "(I)I"⟩
abbrev cX6_probe : ByteArray := prog_1_method_21_code
def yX6_probe : MethodName := ⟨RX6, "probe", "(II)I"⟩
abbrev cX6_step : ByteArray := prog_1_method_22_code
def yX6_step : MethodName := ⟨RX6, "step", "(I)I"⟩
abbrev cX6_probes : ByteArray := prog_1_method_23_code
def yX6_probes : MethodName := ⟨RX6, "probes", "(I)I"⟩
abbrev cX6_probesBySlot : ByteArray := prog_1_method_24_code
def yX6_probesBySlot : MethodName := ⟨RX6, "probesBySlot", "(I)I"⟩
abbrev cX6_keyAt : ByteArray := prog_1_method_25_code
def yX6_keyAt : MethodName := ⟨RX6, "keyAt", "(I)I"⟩
abbrev cX6_hardestKey : ByteArray := prog_1_method_26_code
def yX6_hardestKey : MethodName := ⟨RX6, "hardestKey", "()I"⟩
abbrev cX6_isFull : ByteArray := prog_1_method_27_code
def yX6_isFull : MethodName := ⟨RX6, "isFull", "(I)Z"⟩
abbrev cX6_isTombstone : ByteArray := prog_1_method_28_code
def yX6_isTombstone : MethodName := ⟨RX6, "isTombstone", "(I)Z"⟩
abbrev cX6_keyIn : ByteArray := prog_1_method_29_code
def yX6_keyIn : MethodName := ⟨RX6, "keyIn", "(I)I"⟩
abbrev cX6_clusters : ByteArray := prog_1_method_30_code
def yX6_clusters : MethodName := ⟨RX6, "clusters", "()I"⟩
abbrev cX6_clusterSize : ByteArray := prog_1_method_31_code
def yX6_clusterSize : MethodName := ⟨RX6, "clusterSize", "(I)I"⟩
abbrev cX6_largestCluster : ByteArray := prog_1_method_32_code
def yX6_largestCluster : MethodName := ⟨RX6, "largestCluster", "()I"⟩
abbrev cX6_largestClusterByHalves : ByteArray := prog_1_method_33_code
def yX6_largestClusterByHalves : MethodName := ⟨RX6, "largestClusterByHalves", "()I"⟩
abbrev cX6_meanProbes : ByteArray := prog_1_method_34_code
def yX6_meanProbes : MethodName := ⟨RX6, "meanProbes", "()D"⟩
abbrev cX6_meanProbesBits : ByteArray := prog_1_method_35_code
def yX6_meanProbesBits : MethodName := ⟨RX6, "meanProbesBits", "()J"⟩
abbrev cX6_load : ByteArray := prog_1_method_36_code
def yX6_load : MethodName := ⟨RX6, "load", "()F"⟩
abbrev cX6_loadBits : ByteArray := prog_1_method_37_code
def yX6_loadBits : MethodName := ⟨RX6, "loadBits", "()I"⟩
abbrev cX6_trial : ByteArray := prog_1_method_38_code
def yX6_trial : MethodName := ⟨RX6, "trial", "(III)I"⟩
abbrev cX6_bestKind : ByteArray := prog_1_method_39_code
def yX6_bestKind : MethodName := ⟨RX6, "bestKind", "(II)I"⟩
abbrev cX6_isConsistent : ByteArray := prog_1_method_40_code
def yX6_isConsistent : MethodName := ⟨RX6, "isConsistent", "()Z"⟩
abbrev cX6_writeSlots : ByteArray := prog_1_method_41_code
def yX6_writeSlots : MethodName := ⟨RX6, "writeSlots", "()I"⟩
abbrev cX6_writeKeys : ByteArray := prog_1_method_42_code
def yX6_writeKeys : MethodName := ⟨RX6, "writeKeys", "()I"⟩
abbrev cX6_charAt : ByteArray := prog_1_method_43_code
def yX6_charAt : MethodName := ⟨RX6, "charAt", "(I)C"⟩
abbrev cX6_isKey : ByteArray := prog_1_method_51_code
def yX6_isKey : MethodName := ⟨RX6, "isKey", "(I)Z"⟩
abbrev cX6_isValue : ByteArray := prog_1_method_52_code
def yX6_isValue : MethodName := ⟨RX6, "isValue", "(I)Z"⟩
abbrev cX6_isKind : ByteArray := prog_1_method_53_code
def yX6_isKind : MethodName := ⟨RX6, "isKind", "(I)Z"⟩
abbrev cX6_isSeed : ByteArray := prog_1_method_54_code
def yX6_isSeed : MethodName := ⟨RX6, "isSeed", "(I)Z"⟩
abbrev cX6_isLimit : ByteArray := prog_1_method_55_code
def yX6_isLimit : MethodName := ⟨RX6, "isLimit", "(I)Z"⟩
abbrev cX6_isTrial : ByteArray := prog_1_method_56_code
def yX6_isTrial : MethodName := ⟨RX6, "isTrial", "(II)Z"⟩
abbrev cX6_trialResult : ByteArray := prog_1_method_57_code
def yX6_trialResult : MethodName := ⟨RX6, "trialResult", "(III)I"⟩
abbrev cX6_everyKindKeepsTheKeys : ByteArray := prog_1_method_58_code
def yX6_everyKindKeepsTheKeys : MethodName := ⟨RX6, "everyKindKeepsTheKeys", "()Z"⟩
abbrev cX6_signOf : ByteArray := prog_1_method_59_code
def yX6_signOf : MethodName := ⟨RX6, "signOf", "(I)C"⟩
def RX7 : String := "HashLabModel"
def TX7 : u_T := fun k => match k with
  | _ => ("", "", "", false)
def tyX7 : Nat → FieldType := fun k => match k with
  | _ => .int
abbrev wsX70 : List Cond := u_ws RX7 TX7 0
theorem nmX7 : ∀ a, a < 0 → ∀ b, b < 0 → a ≠ b → (TX7 a).2.1 ≠ (TX7 b).2.1 := by decide +kernel
theorem tyX7_ok : ∀ k, k < 0 → parseFieldDescriptor (TX7 k).2.2.1 = some (tyX7 k) := by decide +kernel
def RJx145de : String := "java/io/Serializable"
def TJx145de : u_T := fun k => match k with
  | _ => ("", "", "", false)
def tyJx145de : Nat → FieldType := fun k => match k with
  | _ => .int
abbrev wsJx145de0 : List Cond := u_ws RJx145de TJx145de 0
theorem nmJx145de : ∀ a, a < 0 → ∀ b, b < 0 → a ≠ b → (TJx145de a).2.1 ≠ (TJx145de b).2.1 := by decide +kernel
theorem tyJx145de_ok : ∀ k, k < 0 → parseFieldDescriptor (TJx145de k).2.2.1 = some (tyJx145de k) := by decide +kernel
def RJ5 : String := "java/lang/AbstractStringBuilder"
def TJ5 : u_T := fun k => match k with
  | _ => ("", "", "", false)
def tyJ5 : Nat → FieldType := fun k => match k with
  | _ => .int
abbrev wsJ50 : List Cond := u_ws RJ5 TJ5 0
theorem nmJ5 : ∀ a, a < 0 → ∀ b, b < 0 → a ≠ b → (TJ5 a).2.1 ≠ (TJ5 b).2.1 := by decide +kernel
theorem tyJ5_ok : ∀ k, k < 0 → parseFieldDescriptor (TJ5 k).2.2.1 = some (tyJ5 k) := by decide +kernel
abbrev cJ5_init_d00df : ByteArray := prog_11_method_2_code
def yJ5_init_d00df : MethodName := ⟨RJ5, "<init>", "(I)V"⟩
abbrev cJ5_length_8abf5 : ByteArray := prog_11_method_6_code
def yJ5_length_8abf5 : MethodName := ⟨RJ5, "length", "()I"⟩
abbrev cJ5_ensureCapacityInternal_d00df : ByteArray := prog_11_method_9_code
def yJ5_ensureCapacityInternal_d00df : MethodName := ⟨RJ5, "ensureCapacityInternal", "(I)V"⟩
abbrev cJ5_newCapacity_0f7a4 : ByteArray := prog_11_method_10_code
def yJ5_newCapacity_0f7a4 : MethodName := ⟨RJ5, "newCapacity", "(I)I"⟩
abbrev cJ5_inflate_da8c8 : ByteArray := prog_11_method_11_code
def yJ5_inflate_da8c8 : MethodName := ⟨RJ5, "inflate", "()V"⟩
abbrev cJ5_append_cf1ce : ByteArray := prog_11_method_22_code
def yJ5_append_cf1ce : MethodName := ⟨RJ5, "append", "(Ljava/lang/String;)Ljava/lang/AbstractStringBuilder;"⟩
abbrev cJ5_appendNull_278bc : ByteArray := prog_11_method_26_code
def yJ5_appendNull_278bc : MethodName := ⟨RJ5, "appendNull", "()Ljava/lang/AbstractStringBuilder;"⟩
abbrev cJ5_append_c97b9 : ByteArray := prog_11_method_32_code
def yJ5_append_c97b9 : MethodName := ⟨RJ5, "append", "(I)Ljava/lang/AbstractStringBuilder;"⟩
abbrev cJ5_getValue_6d5f1 : ByteArray := prog_11_method_64_code
def yJ5_getValue_6d5f1 : MethodName := ⟨RJ5, "getValue", "()[B"⟩
abbrev cJ5_isLatin1_aae02 : ByteArray := prog_11_method_68_code
def yJ5_isLatin1_aae02 : MethodName := ⟨RJ5, "isLatin1", "()Z"⟩
abbrev cJ5_inflateIfNeededFor_a7421 : ByteArray := prog_11_method_71_code
def yJ5_inflateIfNeededFor_a7421 : MethodName := ⟨RJ5, "inflateIfNeededFor", "(Ljava/lang/String;)V"⟩
abbrev cJ5_putStringAt_47b60 : ByteArray := prog_11_method_73_code
def yJ5_putStringAt_47b60 : MethodName := ⟨RJ5, "putStringAt", "(ILjava/lang/String;)V"⟩
def RJx2cfe8 : String := "java/lang/Appendable"
def TJx2cfe8 : u_T := fun k => match k with
  | _ => ("", "", "", false)
def tyJx2cfe8 : Nat → FieldType := fun k => match k with
  | _ => .int
abbrev wsJx2cfe80 : List Cond := u_ws RJx2cfe8 TJx2cfe8 0
theorem nmJx2cfe8 : ∀ a, a < 0 → ∀ b, b < 0 → a ≠ b → (TJx2cfe8 a).2.1 ≠ (TJx2cfe8 b).2.1 := by decide +kernel
theorem tyJx2cfe8_ok : ∀ k, k < 0 → parseFieldDescriptor (TJx2cfe8 k).2.2.1 = some (tyJx2cfe8 k) := by decide +kernel
def RJx00060 : String := "java/lang/ArrayIndexOutOfBoundsException"
def TJx00060 : u_T := fun k => match k with
  | 0 => ("java/lang/Throwable", "backtrace", "Ljava/lang/Object;", false)
  | 1 => ("java/lang/Throwable", "detailMessage", "Ljava/lang/String;", false)
  | 2 => ("java/lang/Throwable", "cause", "Ljava/lang/Throwable;", false)
  | 3 => ("java/lang/Throwable", "stackTrace", "[Ljava/lang/StackTraceElement;", false)
  | 4 => ("java/lang/Throwable", "depth", "I", false)
  | _ => ("java/lang/Throwable", "suppressedExceptions", "Ljava/util/List;", false)
def tyJx00060 : Nat → FieldType := fun k => match k with
  | 0 => .object "java/lang/Object"
  | 1 => .object "java/lang/String"
  | 2 => .object "java/lang/Throwable"
  | 3 => .array (.object "java/lang/StackTraceElement")
  | 4 => .int
  | _ => .object "java/util/List"
abbrev wsJx000600 : List Cond := u_ws RJx00060 TJx00060 6
theorem nmJx00060 : ∀ a, a < 6 → ∀ b, b < 6 → a ≠ b → (TJx00060 a).2.1 ≠ (TJx00060 b).2.1 := by decide +kernel
theorem tyJx00060_ok : ∀ k, k < 6 → parseFieldDescriptor (TJx00060 k).2.2.1 = some (tyJx00060 k) := by decide +kernel
abbrev cJx00060_init_a7421 : ByteArray := prog_14_method_2_code
def yJx00060_init_a7421 : MethodName := ⟨RJx00060, "<init>", "(Ljava/lang/String;)V"⟩
def RJx9f9b0 : String := "java/lang/CharSequence"
def TJx9f9b0 : u_T := fun k => match k with
  | _ => ("", "", "", false)
def tyJx9f9b0 : Nat → FieldType := fun k => match k with
  | _ => .int
abbrev wsJx9f9b00 : List Cond := u_ws RJx9f9b0 TJx9f9b0 0
theorem nmJx9f9b0 : ∀ a, a < 0 → ∀ b, b < 0 → a ≠ b → (TJx9f9b0 a).2.1 ≠ (TJx9f9b0 b).2.1 := by decide +kernel
theorem tyJx9f9b0_ok : ∀ k, k < 0 → parseFieldDescriptor (TJx9f9b0 k).2.2.1 = some (tyJx9f9b0 k) := by decide +kernel
def RJx8e188 : String := "java/lang/Cloneable"
def TJx8e188 : u_T := fun k => match k with
  | _ => ("", "", "", false)
def tyJx8e188 : Nat → FieldType := fun k => match k with
  | _ => .int
abbrev wsJx8e1880 : List Cond := u_ws RJx8e188 TJx8e188 0
theorem nmJx8e188 : ∀ a, a < 0 → ∀ b, b < 0 → a ≠ b → (TJx8e188 a).2.1 ≠ (TJx8e188 b).2.1 := by decide +kernel
theorem tyJx8e188_ok : ∀ k, k < 0 → parseFieldDescriptor (TJx8e188 k).2.2.1 = some (tyJx8e188 k) := by decide +kernel
def RJxb160c : String := "java/lang/Comparable"
def TJxb160c : u_T := fun k => match k with
  | _ => ("", "", "", false)
def tyJxb160c : Nat → FieldType := fun k => match k with
  | _ => .int
abbrev wsJxb160c0 : List Cond := u_ws RJxb160c TJxb160c 0
theorem nmJxb160c : ∀ a, a < 0 → ∀ b, b < 0 → a ≠ b → (TJxb160c a).2.1 ≠ (TJxb160c b).2.1 := by decide +kernel
theorem tyJxb160c_ok : ∀ k, k < 0 → parseFieldDescriptor (TJxb160c k).2.2.1 = some (tyJxb160c k) := by decide +kernel
def RJxe99ae : String := "java/lang/Double"
def TJxe99ae : u_T := fun k => match k with
  | _ => ("", "", "", false)
def tyJxe99ae : Nat → FieldType := fun k => match k with
  | _ => .int
abbrev wsJxe99ae0 : List Cond := u_ws RJxe99ae TJxe99ae 0
theorem nmJxe99ae : ∀ a, a < 0 → ∀ b, b < 0 → a ≠ b → (TJxe99ae a).2.1 ≠ (TJxe99ae b).2.1 := by decide +kernel
theorem tyJxe99ae_ok : ∀ k, k < 0 → parseFieldDescriptor (TJxe99ae k).2.2.1 = some (tyJxe99ae k) := by decide +kernel
abbrev cJxe99ae_isNaN_b9ae7 : ByteArray := prog_18_method_6_code
def yJxe99ae_isNaN_b9ae7 : MethodName := ⟨RJxe99ae, "isNaN", "(D)Z"⟩
abbrev cJxe99ae_doubleToLongBits_ccdee : ByteArray := prog_18_method_23_code
def yJxe99ae_doubleToLongBits_ccdee : MethodName := ⟨RJxe99ae, "doubleToLongBits", "(D)J"⟩
def RJxf58ca : String := "java/lang/Float"
def TJxf58ca : u_T := fun k => match k with
  | _ => ("", "", "", false)
def tyJxf58ca : Nat → FieldType := fun k => match k with
  | _ => .int
abbrev wsJxf58ca0 : List Cond := u_ws RJxf58ca TJxf58ca 0
theorem nmJxf58ca : ∀ a, a < 0 → ∀ b, b < 0 → a ≠ b → (TJxf58ca a).2.1 ≠ (TJxf58ca b).2.1 := by decide +kernel
theorem tyJxf58ca_ok : ∀ k, k < 0 → parseFieldDescriptor (TJxf58ca k).2.2.1 = some (tyJxf58ca k) := by decide +kernel
abbrev cJxf58ca_isNaN_12338 : ByteArray := prog_20_method_6_code
def yJxf58ca_isNaN_12338 : MethodName := ⟨RJxf58ca, "isNaN", "(F)Z"⟩
abbrev cJxf58ca_floatToIntBits_5c35a : ByteArray := prog_20_method_24_code
def yJxf58ca_floatToIntBits_5c35a : MethodName := ⟨RJxf58ca, "floatToIntBits", "(F)I"⟩
def RJ6 : String := "java/lang/Integer"
def TJ6 : u_T := fun k => match k with
  | _ => ("", "", "", false)
def tyJ6 : Nat → FieldType := fun k => match k with
  | _ => .int
abbrev wsJ60 : List Cond := u_ws RJ6 TJ6 0
theorem nmJ6 : ∀ a, a < 0 → ∀ b, b < 0 → a ≠ b → (TJ6 a).2.1 ≠ (TJ6 b).2.1 := by decide +kernel
theorem tyJ6_ok : ∀ k, k < 0 → parseFieldDescriptor (TJ6 k).2.2.1 = some (tyJ6 k) := by decide +kernel
abbrev cJ6_getChars_ba4f3 : ByteArray := prog_24_method_12_code
def yJ6_getChars_ba4f3 : MethodName := ⟨RJ6, "getChars", "(II[B)I"⟩
abbrev cJ6_stringSize_0f7a4 : ByteArray := prog_24_method_13_code
def yJ6_stringSize_0f7a4 : MethodName := ⟨RJ6, "stringSize", "(I)I"⟩
def RJ13 : String := "java/lang/Long"
def TJ13 : u_T := fun k => match k with
  | _ => ("", "", "", false)
def tyJ13 : Nat → FieldType := fun k => match k with
  | _ => .int
abbrev wsJ130 : List Cond := u_ws RJ13 TJ13 0
theorem nmJ13 : ∀ a, a < 0 → ∀ b, b < 0 → a ≠ b → (TJ13 a).2.1 ≠ (TJ13 b).2.1 := by decide +kernel
theorem tyJ13_ok : ∀ k, k < 0 → parseFieldDescriptor (TJ13 k).2.2.1 = some (tyJ13 k) := by decide +kernel
abbrev cJ13_bitCount_95d88 : ByteArray := prog_25_method_50_code
def yJ13_bitCount_95d88 : MethodName := ⟨RJ13, "bitCount", "(J)I"⟩
def RJ9 : String := "java/lang/Math"
def TJ9 : u_T := fun k => match k with
  | _ => ("", "", "", false)
def tyJ9 : Nat → FieldType := fun k => match k with
  | _ => .int
abbrev wsJ90 : List Cond := u_ws RJ9 TJ9 0
theorem nmJ9 : ∀ a, a < 0 → ∀ b, b < 0 → a ≠ b → (TJ9 a).2.1 ≠ (TJ9 b).2.1 := by decide +kernel
theorem tyJ9_ok : ∀ k, k < 0 → parseFieldDescriptor (TJ9 k).2.2.1 = some (tyJ9 k) := by decide +kernel
abbrev cJ9_abs_0f7a4 : ByteArray := prog_26_method_59_code
def yJ9_abs_0f7a4 : MethodName := ⟨RJ9, "abs", "(I)I"⟩
abbrev cJ9_max_7cf53 : ByteArray := prog_26_method_65_code
def yJ9_max_7cf53 : MethodName := ⟨RJ9, "max", "(II)I"⟩
abbrev cJ9_min_7cf53 : ByteArray := prog_26_method_69_code
def yJ9_min_7cf53 : MethodName := ⟨RJ9, "min", "(II)I"⟩
def RJxd2413 : String := "java/lang/Number"
def TJxd2413 : u_T := fun k => match k with
  | _ => ("", "", "", false)
def tyJxd2413 : Nat → FieldType := fun k => match k with
  | _ => .int
abbrev wsJxd24130 : List Cond := u_ws RJxd2413 TJxd2413 0
theorem nmJxd2413 : ∀ a, a < 0 → ∀ b, b < 0 → a ≠ b → (TJxd2413 a).2.1 ≠ (TJxd2413 b).2.1 := by decide +kernel
theorem tyJxd2413_ok : ∀ k, k < 0 → parseFieldDescriptor (TJxd2413 k).2.2.1 = some (tyJxd2413 k) := by decide +kernel
def RJ0 : String := "java/lang/String"
def TJ0 : u_T := fun k => match k with
  | 0 => ("java/lang/String", "value", "[B", true)
  | 1 => ("java/lang/String", "coder", "B", true)
  | 2 => ("java/lang/String", "hash", "I", false)
  | _ => ("java/lang/String", "hashIsZero", "Z", false)
def tyJ0 : Nat → FieldType := fun k => match k with
  | 0 => .array .byte
  | 1 => .byte
  | 2 => .int
  | _ => .boolean
abbrev wsJ00 : List Cond := u_ws RJ0 TJ0 4
theorem nmJ0 : ∀ a, a < 4 → ∀ b, b < 4 → a ≠ b → (TJ0 a).2.1 ≠ (TJ0 b).2.1 := by decide +kernel
theorem tyJ0_ok : ∀ k, k < 4 → parseFieldDescriptor (TJ0 k).2.2.1 = some (tyJ0 k) := by decide +kernel
abbrev cJ0_init_81219 : ByteArray := prog_29_method_53_code
def yJ0_init_81219 : MethodName := ⟨RJ0, "<init>", "(Ljava/lang/StringBuilder;)V"⟩
abbrev cJ0_length_8abf5 : ByteArray := prog_29_method_54_code
def yJ0_length_8abf5 : MethodName := ⟨RJ0, "length", "()I"⟩
abbrev cJ0_charAt_5068e : ByteArray := prog_29_method_56_code
def yJ0_charAt_5068e : MethodName := ⟨RJ0, "charAt", "(I)C"⟩
abbrev cJ0_getBytes_840e7 : ByteArray := prog_29_method_147_code
def yJ0_getBytes_840e7 : MethodName := ⟨RJ0, "getBytes", "([BIB)V"⟩
abbrev cJ0_init_db425 : ByteArray := prog_29_method_150_code
def yJ0_init_db425 : MethodName := ⟨RJ0, "<init>", "(Ljava/lang/AbstractStringBuilder;Ljava/lang/Void;)V"⟩
abbrev cJ0_coder_7d493 : ByteArray := prog_29_method_152_code
def yJ0_coder_7d493 : MethodName := ⟨RJ0, "coder", "()B"⟩
abbrev cJ0_isLatin1_aae02 : ByteArray := prog_29_method_154_code
def yJ0_isLatin1_aae02 : MethodName := ⟨RJ0, "isLatin1", "()Z"⟩
abbrev cJ0_checkIndex_df160 : ByteArray := prog_29_method_155_code
def yJ0_checkIndex_df160 : MethodName := ⟨RJ0, "checkIndex", "(II)V"⟩
abbrev cJ0_checkBoundsOffCount_cabcc : ByteArray := prog_29_method_157_code
def yJ0_checkBoundsOffCount_cabcc : MethodName := ⟨RJ0, "checkBoundsOffCount", "(III)I"⟩
abbrev cJ0_checkBoundsBeginEnd_23922 : ByteArray := prog_29_method_158_code
def yJ0_checkBoundsBeginEnd_23922 : MethodName := ⟨RJ0, "checkBoundsBeginEnd", "(III)V"⟩
def RJ4 : String := "java/lang/StringBuilder"
def TJ4 : u_T := fun k => match k with
  | 0 => ("java/lang/AbstractStringBuilder", "value", "[B", false)
  | 1 => ("java/lang/AbstractStringBuilder", "coder", "B", false)
  | 2 => ("java/lang/AbstractStringBuilder", "maybeLatin1", "Z", false)
  | _ => ("java/lang/AbstractStringBuilder", "count", "I", false)
def tyJ4 : Nat → FieldType := fun k => match k with
  | 0 => .array .byte
  | 1 => .byte
  | 2 => .boolean
  | _ => .int
abbrev wsJ40 : List Cond := u_ws RJ4 TJ4 4
theorem nmJ4 : ∀ a, a < 4 → ∀ b, b < 4 → a ≠ b → (TJ4 a).2.1 ≠ (TJ4 b).2.1 := by decide +kernel
theorem tyJ4_ok : ∀ k, k < 4 → parseFieldDescriptor (TJ4 k).2.2.1 = some (tyJ4 k) := by decide +kernel
abbrev cJ4_init_da8c8 : ByteArray := prog_30_method_1_code
def yJ4_init_da8c8 : MethodName := ⟨RJ4, "<init>", "()V"⟩
abbrev cJ4_append_15ec4 : ByteArray := prog_30_method_7_code
def yJ4_append_15ec4 : MethodName := ⟨RJ4, "append", "(Ljava/lang/String;)Ljava/lang/StringBuilder;"⟩
abbrev cJ4_append_bf812 : ByteArray := prog_30_method_15_code
def yJ4_append_bf812 : MethodName := ⟨RJ4, "append", "(I)Ljava/lang/StringBuilder;"⟩
abbrev cJ4_toString_0e30d : ByteArray := prog_30_method_42_code
def yJ4_toString_0e30d : MethodName := ⟨RJ4, "toString", "()Ljava/lang/String;"⟩
abbrev cJ4_length_8abf5 : ByteArray := prog_30_method_93_code
def yJ4_length_8abf5 : MethodName := ⟨RJ4, "length", "()I"⟩
def RJ1 : String := "java/lang/StringLatin1"
def TJ1 : u_T := fun k => match k with
  | _ => ("", "", "", false)
def tyJ1 : Nat → FieldType := fun k => match k with
  | _ => .int
abbrev wsJ10 : List Cond := u_ws RJ1 TJ1 0
theorem nmJ1 : ∀ a, a < 0 → ∀ b, b < 0 → a ≠ b → (TJ1 a).2.1 ≠ (TJ1 b).2.1 := by decide +kernel
theorem tyJ1_ok : ∀ k, k < 0 → parseFieldDescriptor (TJ1 k).2.2.1 = some (tyJ1 k) := by decide +kernel
abbrev cJ1_charAt_3b067 : ByteArray := prog_31_method_2_code
def yJ1_charAt_3b067 : MethodName := ⟨RJ1, "charAt", "([BI)C"⟩
abbrev cJ1_inflate_0e8fd : ByteArray := prog_31_method_50_code
def yJ1_inflate_0e8fd : MethodName := ⟨RJ1, "inflate", "([BI[BII)V"⟩
def RJ2 : String := "java/lang/StringUTF16"
def TJ2 : u_T := fun k => match k with
  | _ => ("", "", "", false)
def tyJ2 : Nat → FieldType := fun k => match k with
  | _ => .int
abbrev wsJ20 : List Cond := u_ws RJ2 TJ2 0
theorem nmJ2 : ∀ a, a < 0 → ∀ b, b < 0 → a ≠ b → (TJ2 a).2.1 ≠ (TJ2 b).2.1 := by decide +kernel
theorem tyJ2_ok : ∀ k, k < 0 → parseFieldDescriptor (TJ2 k).2.2.1 = some (tyJ2 k) := by decide +kernel
abbrev cJ2_newBytesFor_77867 : ByteArray := prog_32_method_2_code
def yJ2_newBytesFor_77867 : MethodName := ⟨RJ2, "newBytesFor", "(I)[B"⟩
abbrev cJ2_newBytesLength_0f7a4 : ByteArray := prog_32_method_3_code
def yJ2_newBytesLength_0f7a4 : MethodName := ⟨RJ2, "newBytesLength", "(I)I"⟩
abbrev cJ2_putChar_b72d1 : ByteArray := prog_32_method_4_code
def yJ2_putChar_b72d1 : MethodName := ⟨RJ2, "putChar", "([BII)V"⟩
abbrev cJ2_getChar_3b067 : ByteArray := prog_32_method_5_code
def yJ2_getChar_3b067 : MethodName := ⟨RJ2, "getChar", "([BI)C"⟩
abbrev cJ2_length_9d52b : ByteArray := prog_32_method_6_code
def yJ2_length_9d52b : MethodName := ⟨RJ2, "length", "([B)I"⟩
abbrev cJ2_coderFromArrayLen_85cad : ByteArray := prog_32_method_15_code
def yJ2_coderFromArrayLen_85cad : MethodName := ⟨RJ2, "coderFromArrayLen", "([BI)B"⟩
abbrev cJ2_compress_39247 : ByteArray := prog_32_method_17_code
def yJ2_compress_39247 : MethodName := ⟨RJ2, "compress", "([BII)[B"⟩
abbrev cJ2_compress_5af95 : ByteArray := prog_32_method_22_code
def yJ2_compress_5af95 : MethodName := ⟨RJ2, "compress", "([BI[BII)I"⟩
abbrev cJ2_getChars_46870 : ByteArray := prog_32_method_77_code
def yJ2_getChars_46870 : MethodName := ⟨RJ2, "getChars", "(III[B)I"⟩
abbrev cJ2_putCharsAt_cd4e5 : ByteArray := prog_32_method_81_code
def yJ2_putCharsAt_cd4e5 : MethodName := ⟨RJ2, "putCharsAt", "([BICCCC)I"⟩
abbrev cJ2_charAt_3b067 : ByteArray := prog_32_method_83_code
def yJ2_charAt_3b067 : MethodName := ⟨RJ2, "charAt", "([BI)C"⟩
abbrev cJ2_inflate_0e8fd : ByteArray := prog_32_method_86_code
def yJ2_inflate_0e8fd : MethodName := ⟨RJ2, "inflate", "([BI[BII)V"⟩
abbrev cJ2_getChars_ba4f3 : ByteArray := prog_32_method_89_code
def yJ2_getChars_ba4f3 : MethodName := ⟨RJ2, "getChars", "(II[B)I"⟩
abbrev cJ2_checkIndex_2214a : ByteArray := prog_32_method_91_code
def yJ2_checkIndex_2214a : MethodName := ⟨RJ2, "checkIndex", "(I[B)V"⟩
abbrev cJ2_checkBoundsBeginEnd_d044e : ByteArray := prog_32_method_93_code
def yJ2_checkBoundsBeginEnd_d044e : MethodName := ⟨RJ2, "checkBoundsBeginEnd", "(II[B)V"⟩
abbrev cJ2_checkBoundsOffCount_d044e : ByteArray := prog_32_method_94_code
def yJ2_checkBoundsOffCount_d044e : MethodName := ⟨RJ2, "checkBoundsOffCount", "(II[B)V"⟩
def RJ10 : String := "java/lang/System"
def TJ10 : u_T := fun k => match k with
  | _ => ("", "", "", false)
def tyJ10 : Nat → FieldType := fun k => match k with
  | _ => .int
abbrev wsJ100 : List Cond := u_ws RJ10 TJ10 0
theorem nmJ10 : ∀ a, a < 0 → ∀ b, b < 0 → a ≠ b → (TJ10 a).2.1 ≠ (TJ10 b).2.1 := by decide +kernel
theorem tyJ10_ok : ∀ k, k < 0 → parseFieldDescriptor (TJ10 k).2.2.1 = some (tyJ10 k) := by decide +kernel
def RJxfd54e : String := "java/lang/constant/Constable"
def TJxfd54e : u_T := fun k => match k with
  | _ => ("", "", "", false)
def tyJxfd54e : Nat → FieldType := fun k => match k with
  | _ => .int
abbrev wsJxfd54e0 : List Cond := u_ws RJxfd54e TJxfd54e 0
theorem nmJxfd54e : ∀ a, a < 0 → ∀ b, b < 0 → a ≠ b → (TJxfd54e a).2.1 ≠ (TJxfd54e b).2.1 := by decide +kernel
theorem tyJxfd54e_ok : ∀ k, k < 0 → parseFieldDescriptor (TJxfd54e k).2.2.1 = some (tyJxfd54e k) := by decide +kernel
def RJx3cf43 : String := "java/lang/constant/ConstantDesc"
def TJx3cf43 : u_T := fun k => match k with
  | _ => ("", "", "", false)
def tyJx3cf43 : Nat → FieldType := fun k => match k with
  | _ => .int
abbrev wsJx3cf430 : List Cond := u_ws RJx3cf43 TJx3cf43 0
theorem nmJx3cf43 : ∀ a, a < 0 → ∀ b, b < 0 → a ≠ b → (TJx3cf43 a).2.1 ≠ (TJx3cf43 b).2.1 := by decide +kernel
theorem tyJx3cf43_ok : ∀ k, k < 0 → parseFieldDescriptor (TJx3cf43 k).2.2.1 = some (tyJx3cf43 k) := by decide +kernel
def RJ7 : String := "java/util/Arrays"
def TJ7 : u_T := fun k => match k with
  | _ => ("", "", "", false)
def tyJ7 : Nat → FieldType := fun k => match k with
  | _ => .int
abbrev wsJ70 : List Cond := u_ws RJ7 TJ7 0
theorem nmJ7 : ∀ a, a < 0 → ∀ b, b < 0 → a ≠ b → (TJ7 a).2.1 ≠ (TJ7 b).2.1 := by decide +kernel
theorem tyJ7_ok : ∀ k, k < 0 → parseFieldDescriptor (TJ7 k).2.2.1 = some (tyJ7 k) := by decide +kernel
abbrev cJ7_fill_53178 : ByteArray := prog_37_method_103_code
def yJ7_fill_53178 : MethodName := ⟨RJ7, "fill", "([II)V"⟩
abbrev cJ7_copyOf_9075b : ByteArray := prog_37_method_121_code
def yJ7_copyOf_9075b : MethodName := ⟨RJ7, "copyOf", "([BI)[B"⟩
abbrev cJ7_checkLength_df160 : ByteArray := prog_37_method_131_code
def yJ7_checkLength_df160 : MethodName := ⟨RJ7, "checkLength", "(II)V"⟩
abbrev cJ7_copyOfRange_39247 : ByteArray := prog_37_method_132_code
def yJ7_copyOfRange_39247 : MethodName := ⟨RJ7, "copyOfRange", "([BII)[B"⟩
abbrev cJ7_copyOfRangeByte_39247 : ByteArray := prog_37_method_133_code
def yJ7_copyOfRangeByte_39247 : MethodName := ⟨RJ7, "copyOfRangeByte", "([BII)[B"⟩
def RJ8 : String := "jdk/internal/util/ArraysSupport"
def TJ8 : u_T := fun k => match k with
  | _ => ("", "", "", false)
def tyJ8 : Nat → FieldType := fun k => match k with
  | _ => .int
abbrev wsJ80 : List Cond := u_ws RJ8 TJ8 0
theorem nmJ8 : ∀ a, a < 0 → ∀ b, b < 0 → a ≠ b → (TJ8 a).2.1 ≠ (TJ8 b).2.1 := by decide +kernel
theorem tyJ8_ok : ∀ k, k < 0 → parseFieldDescriptor (TJ8 k).2.2.1 = some (tyJ8 k) := by decide +kernel
abbrev cJ8_newLength_cabcc : ByteArray := prog_39_method_27_code
def yJ8_newLength_cabcc : MethodName := ⟨RJ8, "newLength", "(III)I"⟩
abbrev cJ8_hugeLength_7cf53 : ByteArray := prog_39_method_28_code
def yJ8_hugeLength_7cf53 : MethodName := ⟨RJ8, "hugeLength", "(II)I"⟩
def RJ3 : String := "jdk/internal/util/Preconditions"
def TJ3 : u_T := fun k => match k with
  | _ => ("", "", "", false)
def tyJ3 : Nat → FieldType := fun k => match k with
  | _ => .int
abbrev wsJ30 : List Cond := u_ws RJ3 TJ3 0
theorem nmJ3 : ∀ a, a < 0 → ∀ b, b < 0 → a ≠ b → (TJ3 a).2.1 ≠ (TJ3 b).2.1 := by decide +kernel
theorem tyJ3_ok : ∀ k, k < 0 → parseFieldDescriptor (TJ3 k).2.2.1 = some (tyJ3 k) := by decide +kernel
abbrev cJ3_checkIndex_8e157 : ByteArray := prog_40_method_11_code
def yJ3_checkIndex_8e157 : MethodName := ⟨RJ3, "checkIndex", "(IILjava/util/function/BiFunction;)I"⟩
abbrev cJ3_checkFromToIndex_8c36e : ByteArray := prog_40_method_12_code
def yJ3_checkFromToIndex_8c36e : MethodName := ⟨RJ3, "checkFromToIndex", "(IIILjava/util/function/BiFunction;)I"⟩
abbrev cJ3_checkFromIndexSize_8c36e : ByteArray := prog_40_method_13_code
def yJ3_checkFromIndexSize_8c36e : MethodName := ⟨RJ3, "checkFromIndexSize", "(IIILjava/util/function/BiFunction;)I"⟩
def RL : String := "HashLabLaw"
abbrev cL_cell : ByteArray := method_2_code
def yL_cell : MethodName := ⟨RL, "cell", "([II)I"⟩
abbrev cL_some : ByteArray := method_3_code
def yL_some : MethodName := ⟨RL, "some", "([III)I"⟩
abbrev cL_remove : ByteArray := method_4_code
def yL_remove : MethodName := ⟨RL, "remove", "(LHashLab;I)I"⟩
abbrev cL_setKind : ByteArray := method_5_code
def yL_setKind : MethodName := ⟨RL, "setKind", "(LHashLab;I)I"⟩
abbrev cL_setSeed : ByteArray := method_6_code
def yL_setSeed : MethodName := ⟨RL, "setSeed", "(LHashLab;I)I"⟩
abbrev cL_setLimit : ByteArray := method_7_code
def yL_setLimit : MethodName := ⟨RL, "setLimit", "(LHashLab;I)I"⟩
abbrev cL_get : ByteArray := method_8_code
def yL_get : MethodName := ⟨RL, "get", "(LHashLab;I)I"⟩
abbrev cL_probesBySlot : ByteArray := method_9_code
def yL_probesBySlot : MethodName := ⟨RL, "probesBySlot", "(LHashLab;I)I"⟩
abbrev cL_keyAt : ByteArray := method_10_code
def yL_keyAt : MethodName := ⟨RL, "keyAt", "(LHashLab;I)I"⟩
abbrev cL_hardestKey : ByteArray := method_11_code
def yL_hardestKey : MethodName := ⟨RL, "hardestKey", "(LHashLab;)I"⟩
abbrev cL_keyIn : ByteArray := method_12_code
def yL_keyIn : MethodName := ⟨RL, "keyIn", "(LHashLab;I)I"⟩
abbrev cL_put : ByteArray := method_13_code
def yL_put : MethodName := ⟨RL, "put", "(LHashLab;II)I"⟩
abbrev cL_build : ByteArray := method_14_code
def yL_build : MethodName := ⟨RL, "build", "(LHashLab;[I)V"⟩
abbrev cL_acts : ByteArray := method_15_code
def yL_acts : MethodName := ⟨RL, "acts", "(LHashLab;[II)V"⟩
abbrev cL_slot : ByteArray := method_16_code
def yL_slot : MethodName := ⟨RL, "slot", "(LHashLab;II)I"⟩
abbrev cL_examined : ByteArray := method_17_code
def yL_examined : MethodName := ⟨RL, "examined", "(LHashLab;I)I"⟩
abbrev cL_isLine : ByteArray := method_18_code
def yL_isLine : MethodName := ⟨RL, "isLine", "(LHashLab;ILjava/lang/String;)Z"⟩
abbrev cL_law : ByteArray := code
def yL_law : MethodName := ⟨RL, "law", "([I)Z"⟩
abbrev vwCl : List vw_C := [(RJ0, TJ0, 4), (RJ4, TJ4, 4), (RX2, TX2, 3), (RX3, TX3, 2), (RX4, TX4, 7), (RX5, TX5, 12), (RX6, TX6, 10)]
