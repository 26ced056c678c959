/-! ===== BEGIN printed: names, fields, word lists, decode rows ===== -/
def RX0 : String := "Lastasked$Askings"
def TX0 : u_T := fun k => match k with
  | 0 => ("Lastasked$Askings", "keys", "[I", true)
  | 1 => ("Lastasked$Askings", "depths", "[I", true)
  | 2 => ("Lastasked$Askings", "nexts", "[I", true)
  | 3 => ("Lastasked$Askings", "heldKeys", "[I", true)
  | 4 => ("Lastasked$Askings", "heldNexts", "[I", true)
  | _ => ("Lastasked$Askings", "count", "I", false)
def tyX0 : Nat → FieldType := fun k => match k with
  | 0 => .array .int
  | 1 => .array .int
  | 2 => .array .int
  | 3 => .array .int
  | 4 => .array .int
  | _ => .int
abbrev wsX00 : List Cond := u_ws RX0 TX0 6
theorem nmX0 : ∀ a, a < 6 → ∀ b, b < 6 → a ≠ b → (TX0 a).2.1 ≠ (TX0 b).2.1 := by decide +kernel
theorem tyX0_ok : ∀ k, k < 6 → parseFieldDescriptor (TX0 k).2.2.1 = some (tyX0 k) := by decide +kernel
abbrev cX0_init : ByteArray := prog_2_method_1_code
def yX0_init : MethodName := ⟨RX0, "<init>", "()V"⟩
abbrev cX0_add : ByteArray := prog_2_method_2_code
def yX0_add : MethodName := ⟨RX0, "add", "(II)V"⟩
abbrev cX0_noteNext : ByteArray := prog_2_method_3_code
def yX0_noteNext : MethodName := ⟨RX0, "noteNext", "(I)V"⟩
abbrev cX0_isNumber : ByteArray := prog_2_method_4_code
def yX0_isNumber : MethodName := ⟨RX0, "isNumber", "(I)Z"⟩
abbrev cX0_countOfDepth : ByteArray := prog_2_method_5_code
def yX0_countOfDepth : MethodName := ⟨RX0, "countOfDepth", "(I)I"⟩
abbrev cX0_countOutOfReach : ByteArray := prog_2_method_6_code
def yX0_countOutOfReach : MethodName := ⟨RX0, "countOutOfReach", "(I)I"⟩
abbrev cX0_fewestMisses : ByteArray := prog_2_method_7_code
def yX0_fewestMisses : MethodName := ⟨RX0, "fewestMisses", "(I)I"⟩
abbrev cX0_heldPlace : ByteArray := prog_2_method_8_code
def yX0_heldPlace : MethodName := ⟨RX0, "heldPlace", "(II)I"⟩
abbrev cX0_farthestPlace : ByteArray := prog_2_method_9_code
def yX0_farthestPlace : MethodName := ⟨RX0, "farthestPlace", "(I)I"⟩
def RX1 : String := "Lastasked$Keeper"
def TX1 : u_T := fun k => match k with
  | 0 => ("Lastasked$Keeper", "row", "LLastasked$Row;", true)
  | 1 => ("Lastasked$Keeper", "missed", "I", false)
  | _ => ("Lastasked$Keeper", "hit", "I", false)
def tyX1 : Nat → FieldType := fun k => match k with
  | 0 => .object "Lastasked$Row"
  | 1 => .int
  | _ => .int
abbrev wsX10 : List Cond := u_ws RX1 TX1 3
theorem nmX1 : ∀ a, a < 3 → ∀ b, b < 3 → a ≠ b → (TX1 a).2.1 ≠ (TX1 b).2.1 := by decide +kernel
theorem tyX1_ok : ∀ k, k < 3 → parseFieldDescriptor (TX1 k).2.2.1 = some (tyX1 k) := by decide +kernel
abbrev cX1_init : ByteArray := prog_3_method_1_code
def yX1_init : MethodName := ⟨RX1, "<init>", "(I)V"⟩
abbrev cX1_startAnew : ByteArray := prog_3_method_2_code
def yX1_startAnew : MethodName := ⟨RX1, "startAnew", "()V"⟩
abbrev cX1_meet : ByteArray := prog_3_method_3_code
def yX1_meet : MethodName := ⟨RX1, "meet", "(II)Z"⟩
def RX2 : String := "Lastasked$Row"
def TX2 : u_T := fun k => match k with
  | 0 => ("Lastasked$Row", "keys", "[I", true)
  | 1 => ("Lastasked$Row", "values", "[I", true)
  | 2 => ("Lastasked$Row", "count", "I", false)
  | 3 => ("Lastasked$Row", "isByAsking", "Z", false)
  | 4 => ("Lastasked$Row", "most", "I", false)
  | 5 => ("Lastasked$Row", "lostMany", "I", false)
  | _ => ("Lastasked$Row", "lostLast", "I", false)
def tyX2 : Nat → FieldType := fun k => match k with
  | 0 => .array .int
  | 1 => .array .int
  | 2 => .int
  | 3 => .boolean
  | 4 => .int
  | 5 => .int
  | _ => .int
abbrev wsX20 : List Cond := u_ws RX2 TX2 7
theorem nmX2 : ∀ a, a < 7 → ∀ b, b < 7 → a ≠ b → (TX2 a).2.1 ≠ (TX2 b).2.1 := by decide +kernel
theorem tyX2_ok : ∀ k, k < 7 → parseFieldDescriptor (TX2 k).2.2.1 = some (tyX2 k) := by decide +kernel
abbrev cX2_init : ByteArray := prog_4_method_1_code
def yX2_init : MethodName := ⟨RX2, "<init>", "(ZI)V"⟩
abbrev cX2_renew : ByteArray := prog_4_method_2_code
def yX2_renew : MethodName := ⟨RX2, "renew", "(ZI)I"⟩
abbrev cX2_become : ByteArray := prog_4_method_3_code
def yX2_become : MethodName := ⟨RX2, "become", "(LLastasked$Row;)V"⟩
abbrev cX2_bring : ByteArray := prog_4_method_4_code
def yX2_bring : MethodName := ⟨RX2, "bring", "(II)I"⟩
abbrev cX2_bringIfAbsent : ByteArray := prog_4_method_5_code
def yX2_bringIfAbsent : MethodName := ⟨RX2, "bringIfAbsent", "(II)I"⟩
abbrev cX2_fetch : ByteArray := prog_4_method_6_code
def yX2_fetch : MethodName := ⟨RX2, "fetch", "(II)I"⟩
abbrev cX2_fetchOrTakeIn : ByteArray := prog_4_method_7_code
def yX2_fetchOrTakeIn : MethodName := ⟨RX2, "fetchOrTakeIn", "(II)Z"⟩
abbrev cX2_dropKey : ByteArray := prog_4_method_8_code
def yX2_dropKey : MethodName := ⟨RX2, "dropKey", "(I)I"⟩
abbrev cX2_dropAll : ByteArray := prog_4_method_9_code
def yX2_dropAll : MethodName := ⟨RX2, "dropAll", "()I"⟩
abbrev cX2_dropAt : ByteArray := prog_4_method_10_code
def yX2_dropAt : MethodName := ⟨RX2, "dropAt", "(I)V"⟩
abbrev cX2_changeValue : ByteArray := prog_4_method_11_code
def yX2_changeValue : MethodName := ⟨RX2, "changeValue", "(II)I"⟩
abbrev cX2_find : ByteArray := prog_4_method_12_code
def yX2_find : MethodName := ⟨RX2, "find", "(I)I"⟩
abbrev cX2_isPlace : ByteArray := prog_4_method_13_code
def yX2_isPlace : MethodName := ⟨RX2, "isPlace", "(I)Z"⟩
abbrev cX2_told : ByteArray := prog_4_method_14_code
def yX2_told : MethodName := ⟨RX2, "told", "(II)I"⟩
abbrev cX2_sumOfValues : ByteArray := prog_4_method_15_code
def yX2_sumOfValues : MethodName := ⟨RX2, "sumOfValues", "()I"⟩
abbrev cX2_written : ByteArray := prog_4_method_16_code
def yX2_written : MethodName := ⟨RX2, "written", "(I)Ljava/lang/String;"⟩
abbrev cX2_isAboveMost : ByteArray := prog_4_method_17_code
def yX2_isAboveMost : MethodName := ⟨RX2, "isAboveMost", "()Z"⟩
abbrev cX2_isLastOf : ByteArray := prog_4_method_18_code
def yX2_isLastOf : MethodName := ⟨RX2, "isLastOf", "(LLastasked$Row;)Z"⟩
abbrev cX2_takeIn : ByteArray := prog_4_method_19_code
def yX2_takeIn : MethodName := ⟨RX2, "takeIn", "(II)V"⟩
abbrev cX2_noteAsking : ByteArray := prog_4_method_20_code
def yX2_noteAsking : MethodName := ⟨RX2, "noteAsking", "(I)V"⟩
abbrev cX2_append : ByteArray := prog_4_method_21_code
def yX2_append : MethodName := ⟨RX2, "append", "(II)V"⟩
def RX3 : String := "Lastasked$Table"
def TX3 : u_T := fun k => match k with
  | 0 => ("Lastasked$Table", "row", "LLastasked$Row;", true)
  | _ => ("Lastasked$Table", "walking", "LLastasked$Walk;", true)
def tyX3 : Nat → FieldType := fun k => match k with
  | 0 => .object "Lastasked$Row"
  | _ => .object "Lastasked$Walk"
abbrev wsX30 : List Cond := u_ws RX3 TX3 2
theorem nmX3 : ∀ a, a < 2 → ∀ b, b < 2 → a ≠ b → (TX3 a).2.1 ≠ (TX3 b).2.1 := by decide +kernel
theorem tyX3_ok : ∀ k, k < 2 → parseFieldDescriptor (TX3 k).2.2.1 = some (tyX3 k) := by decide +kernel
abbrev cX3_init : ByteArray := prog_5_method_1_code
def yX3_init : MethodName := ⟨RX3, "<init>", "(LLastasked$Row;)V"⟩
def RX4 : String := "Lastasked$Walk"
def TX4 : u_T := fun k => match k with
  | 0 => ("Lastasked$Walk", "row", "LLastasked$Row;", true)
  | 1 => ("Lastasked$Walk", "isBegun", "Z", false)
  | 2 => ("Lastasked$Walk", "isOld", "Z", false)
  | 3 => ("Lastasked$Walk", "isCutDue", "Z", false)
  | 4 => ("Lastasked$Walk", "kind", "I", false)
  | _ => ("Lastasked$Walk", "next", "I", false)
def tyX4 : Nat → FieldType := fun k => match k with
  | 0 => .object "Lastasked$Row"
  | 1 => .boolean
  | 2 => .boolean
  | 3 => .boolean
  | 4 => .int
  | _ => .int
abbrev wsX40 : List Cond := u_ws RX4 TX4 6
theorem nmX4 : ∀ a, a < 6 → ∀ b, b < 6 → a ≠ b → (TX4 a).2.1 ≠ (TX4 b).2.1 := by decide +kernel
theorem tyX4_ok : ∀ k, k < 6 → parseFieldDescriptor (TX4 k).2.2.1 = some (tyX4 k) := by decide +kernel
abbrev cX4_init : ByteArray := prog_6_method_1_code
def yX4_init : MethodName := ⟨RX4, "<init>", "(LLastasked$Row;)V"⟩
abbrev cX4_begin : ByteArray := prog_6_method_2_code
def yX4_begin : MethodName := ⟨RX4, "begin", "(I)V"⟩
abbrev cX4_outdate : ByteArray := prog_6_method_3_code
def yX4_outdate : MethodName := ⟨RX4, "outdate", "()V"⟩
abbrev cX4_isUsable : ByteArray := prog_6_method_4_code
def yX4_isUsable : MethodName := ⟨RX4, "isUsable", "()Z"⟩
abbrev cX4_isOutdated : ByteArray := prog_6_method_5_code
def yX4_isOutdated : MethodName := ⟨RX4, "isOutdated", "()Z"⟩
abbrev cX4_isAnyAhead : ByteArray := prog_6_method_6_code
def yX4_isAnyAhead : MethodName := ⟨RX4, "isAnyAhead", "()Z"⟩
abbrev cX4_canCut : ByteArray := prog_6_method_7_code
def yX4_canCut : MethodName := ⟨RX4, "canCut", "()Z"⟩
abbrev cX4_advance : ByteArray := prog_6_method_8_code
def yX4_advance : MethodName := ⟨RX4, "advance", "()I"⟩
abbrev cX4_advanceToEnd : ByteArray := prog_6_method_9_code
def yX4_advanceToEnd : MethodName := ⟨RX4, "advanceToEnd", "()I"⟩
abbrev cX4_cutLast : ByteArray := prog_6_method_10_code
def yX4_cutLast : MethodName := ⟨RX4, "cutLast", "()V"⟩
def RX5 : String := "Lastasked"
def TX5 : u_T := fun k => match k with
  | 0 => ("Lastasked", "tables", "[LLastasked$Table;", true)
  | 1 => ("Lastasked", "askings", "LLastasked$Askings;", true)
  | 2 => ("Lastasked", "stackRow", "LLastasked$Row;", true)
  | 3 => ("Lastasked", "keepers", "[LLastasked$Keeper;", true)
  | 4 => ("Lastasked", "bests", "[I", true)
  | 5 => ("Lastasked", "refusals", "I", false)
  | _ => ("Lastasked", "knocks", "I", false)
def tyX5 : Nat → FieldType := fun k => match k with
  | 0 => .array (.object "Lastasked$Table")
  | 1 => .object "Lastasked$Askings"
  | 2 => .object "Lastasked$Row"
  | 3 => .array (.object "Lastasked$Keeper")
  | 4 => .array .int
  | 5 => .int
  | _ => .int
abbrev wsX50 : List Cond := u_ws RX5 TX5 7
theorem nmX5 : ∀ a, a < 7 → ∀ b, b < 7 → a ≠ b → (TX5 a).2.1 ≠ (TX5 b).2.1 := by decide +kernel
theorem tyX5_ok : ∀ k, k < 7 → parseFieldDescriptor (TX5 k).2.2.1 = some (tyX5 k) := by decide +kernel
abbrev cX5_init : ByteArray := prog_1_method_1_code
def yX5_init : MethodName := ⟨RX5, "<init>", "()V"⟩
abbrev cX5_make : ByteArray := prog_1_method_2_code
def yX5_make : MethodName := ⟨RX5, "make", "(IZI)I"⟩
abbrev cX5_put : ByteArray := prog_1_method_3_code
def yX5_put : MethodName := ⟨RX5, "put", "(III)I"⟩
abbrev cX5_putIfAbsent : ByteArray := prog_1_method_4_code
def yX5_putIfAbsent : MethodName := ⟨RX5, "putIfAbsent", "(III)I"⟩
abbrev cX5_get : ByteArray := prog_1_method_5_code
def yX5_get : MethodName := ⟨RX5, "get", "(II)I"⟩
abbrev cX5_getOr : ByteArray := prog_1_method_6_code
def yX5_getOr : MethodName := ⟨RX5, "getOr", "(III)I"⟩
abbrev cX5_remove : ByteArray := prog_1_method_7_code
def yX5_remove : MethodName := ⟨RX5, "remove", "(II)I"⟩
abbrev cX5_clear : ByteArray := prog_1_method_8_code
def yX5_clear : MethodName := ⟨RX5, "clear", "(I)I"⟩
abbrev cX5_set : ByteArray := prog_1_method_9_code
def yX5_set : MethodName := ⟨RX5, "set", "(III)I"⟩
abbrev cX5_copy : ByteArray := prog_1_method_10_code
def yX5_copy : MethodName := ⟨RX5, "copy", "(II)I"⟩
abbrev cX5_has : ByteArray := prog_1_method_11_code
def yX5_has : MethodName := ⟨RX5, "has", "(II)Z"⟩
abbrev cX5_size : ByteArray := prog_1_method_12_code
def yX5_size : MethodName := ⟨RX5, "size", "(I)I"⟩
abbrev cX5_keyAt : ByteArray := prog_1_method_13_code
def yX5_keyAt : MethodName := ⟨RX5, "keyAt", "(II)I"⟩
abbrev cX5_valueAt : ByteArray := prog_1_method_14_code
def yX5_valueAt : MethodName := ⟨RX5, "valueAt", "(II)I"⟩
abbrev cX5_pairAt : ByteArray := prog_1_method_15_code
def yX5_pairAt : MethodName := ⟨RX5, "pairAt", "(II)I"⟩
abbrev cX5_placeOf : ByteArray := prog_1_method_16_code
def yX5_placeOf : MethodName := ⟨RX5, "placeOf", "(II)I"⟩
abbrev cX5_eldest : ByteArray := prog_1_method_17_code
def yX5_eldest : MethodName := ⟨RX5, "eldest", "(I)I"⟩
abbrev cX5_latest : ByteArray := prog_1_method_18_code
def yX5_latest : MethodName := ⟨RX5, "latest", "(I)I"⟩
abbrev cX5_text : ByteArray := prog_1_method_19_code
def yX5_text : MethodName := ⟨RX5, "text", "(II)Ljava/lang/String;"⟩
abbrev cX5_ofTable : ByteArray := prog_1_method_20_code
def yX5_ofTable : MethodName := ⟨RX5, "ofTable", "(II)I"⟩
abbrev cX5_walk : ByteArray := prog_1_method_21_code
def yX5_walk : MethodName := ⟨RX5, "walk", "(II)I"⟩
abbrev cX5_step : ByteArray := prog_1_method_22_code
def yX5_step : MethodName := ⟨RX5, "step", "(I)I"⟩
abbrev cX5_cut : ByteArray := prog_1_method_23_code
def yX5_cut : MethodName := ⟨RX5, "cut", "(I)I"⟩
abbrev cX5_hasMore : ByteArray := prog_1_method_24_code
def yX5_hasMore : MethodName := ⟨RX5, "hasMore", "(I)Z"⟩
abbrev cX5_isStale : ByteArray := prog_1_method_25_code
def yX5_isStale : MethodName := ⟨RX5, "isStale", "(I)Z"⟩
abbrev cX5_rest : ByteArray := prog_1_method_26_code
def yX5_rest : MethodName := ⟨RX5, "rest", "(I)I"⟩
abbrev cX5_ask : ByteArray := prog_1_method_27_code
def yX5_ask : MethodName := ⟨RX5, "ask", "(I)I"⟩
abbrev cX5_askRow : ByteArray := prog_1_method_28_code
def yX5_askRow : MethodName := ⟨RX5, "askRow", "(III)I"⟩
abbrev cX5_forget : ByteArray := prog_1_method_29_code
def yX5_forget : MethodName := ⟨RX5, "forget", "()I"⟩
abbrev cX5_asked : ByteArray := prog_1_method_30_code
def yX5_asked : MethodName := ⟨RX5, "asked", "()I"⟩
abbrev cX5_askedAt : ByteArray := prog_1_method_31_code
def yX5_askedAt : MethodName := ⟨RX5, "askedAt", "(I)I"⟩
abbrev cX5_depthAt : ByteArray := prog_1_method_32_code
def yX5_depthAt : MethodName := ⟨RX5, "depthAt", "(I)I"⟩
abbrev cX5_depth : ByteArray := prog_1_method_33_code
def yX5_depth : MethodName := ⟨RX5, "depth", "(I)I"⟩
abbrev cX5_stack : ByteArray := prog_1_method_34_code
def yX5_stack : MethodName := ⟨RX5, "stack", "()Ljava/lang/String;"⟩
abbrev cX5_kept : ByteArray := prog_1_method_35_code
def yX5_kept : MethodName := ⟨RX5, "kept", "(I)Ljava/lang/String;"⟩
abbrev cX5_keeps : ByteArray := prog_1_method_36_code
def yX5_keeps : MethodName := ⟨RX5, "keeps", "(II)Z"⟩
abbrev cX5_takenAt : ByteArray := prog_1_method_37_code
def yX5_takenAt : MethodName := ⟨RX5, "takenAt", "(II)I"⟩
abbrev cX5_misses : ByteArray := prog_1_method_38_code
def yX5_misses : MethodName := ⟨RX5, "misses", "(I)I"⟩
abbrev cX5_hits : ByteArray := prog_1_method_39_code
def yX5_hits : MethodName := ⟨RX5, "hits", "(I)I"⟩
abbrev cX5_lost : ByteArray := prog_1_method_40_code
def yX5_lost : MethodName := ⟨RX5, "lost", "(I)I"⟩
abbrev cX5_withDepth : ByteArray := prog_1_method_41_code
def yX5_withDepth : MethodName := ⟨RX5, "withDepth", "(I)I"⟩
abbrev cX5_best : ByteArray := prog_1_method_42_code
def yX5_best : MethodName := ⟨RX5, "best", "(I)I"⟩
abbrev cX5_house : ByteArray := prog_1_method_43_code
def yX5_house : MethodName := ⟨RX5, "house", "(I)I"⟩
abbrev cX5_knock : ByteArray := prog_1_method_44_code
def yX5_knock : MethodName := ⟨RX5, "knock", "()I"⟩
abbrev cX5_isSound : ByteArray := prog_1_method_45_code
def yX5_isSound : MethodName := ⟨RX5, "isSound", "()Z"⟩
abbrev cX5_digest : ByteArray := prog_1_method_46_code
def yX5_digest : MethodName := ⟨RX5, "digest", "()J"⟩
abbrev cX5_mixed : ByteArray := prog_1_method_47_code
def yX5_mixed : MethodName := ⟨RX5, "mixed", "(JI)J"⟩
abbrev cX5_mixedWithTable : ByteArray := prog_1_method_48_code
def yX5_mixedWithTable : MethodName := ⟨RX5, "mixedWithTable", "(JI)J"⟩
abbrev cX5_mixedWithKeeper : ByteArray := prog_1_method_49_code
def yX5_mixedWithKeeper : MethodName := ⟨RX5, "mixedWithKeeper", "(JI)J"⟩
abbrev cX5_tableOf : ByteArray := prog_1_method_50_code
def yX5_tableOf : MethodName := ⟨RX5, "tableOf", "(I)LLastasked$Table;"⟩
abbrev cX5_keeperOf : ByteArray := prog_1_method_51_code
def yX5_keeperOf : MethodName := ⟨RX5, "keeperOf", "(I)LLastasked$Keeper;"⟩
abbrev cX5_demandSize : ByteArray := prog_1_method_52_code
def yX5_demandSize : MethodName := ⟨RX5, "demandSize", "(I)V"⟩
abbrev cX5_demandKey : ByteArray := prog_1_method_53_code
def yX5_demandKey : MethodName := ⟨RX5, "demandKey", "(I)V"⟩
abbrev cX5_demandValue : ByteArray := prog_1_method_54_code
def yX5_demandValue : MethodName := ⟨RX5, "demandValue", "(I)V"⟩
abbrev cX5_demandKindOfWalk : ByteArray := prog_1_method_55_code
def yX5_demandKindOfWalk : MethodName := ⟨RX5, "demandKindOfWalk", "(I)V"⟩
abbrev cX5_demandRoomFor : ByteArray := prog_1_method_56_code
def yX5_demandRoomFor : MethodName := ⟨RX5, "demandRoomFor", "(I)V"⟩
abbrev cX5_refuse : ByteArray := prog_1_method_57_code
def yX5_refuse : MethodName := ⟨RX5, "refuse", "()I"⟩
abbrev cX5_askOne : ByteArray := prog_1_method_58_code
def yX5_askOne : MethodName := ⟨RX5, "askOne", "(I)I"⟩
abbrev cX5_depthNow : ByteArray := prog_1_method_59_code
def yX5_depthNow : MethodName := ⟨RX5, "depthNow", "(I)I"⟩
abbrev cX5_pairsOfTables : ByteArray := prog_1_method_60_code
def yX5_pairsOfTables : MethodName := ⟨RX5, "pairsOfTables", "()I"⟩
abbrev cX5_isNoTableAboveMost : ByteArray := prog_1_method_61_code
def yX5_isNoTableAboveMost : MethodName := ⟨RX5, "isNoTableAboveMost", "()Z"⟩
abbrev cX5_areKeepersLastOfStack : ByteArray := prog_1_method_62_code
def yX5_areKeepersLastOfStack : MethodName := ⟨RX5, "areKeepersLastOfStack", "()Z"⟩
abbrev cX5_areMissesByDepth : ByteArray := prog_1_method_63_code
def yX5_areMissesByDepth : MethodName := ⟨RX5, "areMissesByDepth", "()Z"⟩
abbrev cX5_areBestsWithinMisses : ByteArray := prog_1_method_64_code
def yX5_areBestsWithinMisses : MethodName := ⟨RX5, "areBestsWithinMisses", "()Z"⟩
abbrev cX5_isNoneGrowingWithSize : ByteArray := prog_1_method_65_code
def yX5_isNoneGrowingWithSize : MethodName := ⟨RX5, "isNoneGrowingWithSize", "()Z"⟩
abbrev cX5_isTheoremKept : ByteArray := prog_1_method_66_code
def yX5_isTheoremKept : MethodName := ⟨RX5, "isTheoremKept", "()Z"⟩
def RX6 : String := "LastaskedLaw$Out"
def TX6 : u_T := fun k => match k with
  | 0 => ("LastaskedLaw$Out", "n", "J", false)
  | _ => ("LastaskedLaw$Out", "s", "Ljava/lang/String;", false)
def tyX6 : Nat → FieldType := fun k => match k with
  | 0 => .long
  | _ => .object "java/lang/String"
abbrev wsX60 : List Cond := u_ws RX6 TX6 2
theorem nmX6 : ∀ a, a < 2 → ∀ b, b < 2 → a ≠ b → (TX6 a).2.1 ≠ (TX6 b).2.1 := by decide +kernel
theorem tyX6_ok : ∀ k, k < 2 → parseFieldDescriptor (TX6 k).2.2.1 = some (tyX6 k) := by decide +kernel
abbrev cX6_init : ByteArray := prog_8_method_1_code
def yX6_init : MethodName := ⟨RX6, "<init>", "()V"⟩
def RX7 : String := "LastaskedModel$Table"
def TX7 : u_T := fun k => match k with
  | 0 => ("LastaskedModel$Table", "pairs", "Ljava/util/ArrayList;", true)
  | 1 => ("LastaskedModel$Table", "isByAsking", "Z", false)
  | 2 => ("LastaskedModel$Table", "most", "I", false)
  | 3 => ("LastaskedModel$Table", "lost", "I", false)
  | 4 => ("LastaskedModel$Table", "lostKey", "I", false)
  | 5 => ("LastaskedModel$Table", "walk", "I", false)
  | 6 => ("LastaskedModel$Table", "at", "I", false)
  | 7 => ("LastaskedModel$Table", "canCut", "Z", false)
  | _ => ("LastaskedModel$Table", "isStale", "Z", false)
def tyX7 : Nat → FieldType := fun k => match k with
  | 0 => .object "java/util/ArrayList"
  | 1 => .boolean
  | 2 => .int
  | 3 => .int
  | 4 => .int
  | 5 => .int
  | 6 => .int
  | 7 => .boolean
  | _ => .boolean
abbrev wsX70 : List Cond := u_ws RX7 TX7 9
theorem nmX7 : ∀ a, a < 9 → ∀ b, b < 9 → a ≠ b → (TX7 a).2.1 ≠ (TX7 b).2.1 := by decide +kernel
theorem tyX7_ok : ∀ k, k < 9 → parseFieldDescriptor (TX7 k).2.2.1 = some (tyX7 k) := by decide +kernel
abbrev cX7_init : ByteArray := prog_10_method_1_code
def yX7_init : MethodName := ⟨RX7, "<init>", "()V"⟩
abbrev cX7_place : ByteArray := prog_10_method_2_code
def yX7_place : MethodName := ⟨RX7, "place", "(I)I"⟩
abbrev cX7_asked : ByteArray := prog_10_method_3_code
def yX7_asked : MethodName := ⟨RX7, "asked", "(I)V"⟩
abbrev cX7_anew : ByteArray := prog_10_method_4_code
def yX7_anew : MethodName := ⟨RX7, "anew", "(ZI)V"⟩
abbrev cX7_isOn : ByteArray := prog_10_method_5_code
def yX7_isOn : MethodName := ⟨RX7, "isOn", "()Z"⟩
abbrev cX7_hasMore : ByteArray := prog_10_method_6_code
def yX7_hasMore : MethodName := ⟨RX7, "hasMore", "()Z"⟩
abbrev cX7_step : ByteArray := prog_10_method_7_code
def yX7_step : MethodName := ⟨RX7, "step", "()I"⟩
def RX8 : String := "LastaskedModel"
def TX8 : u_T := fun k => match k with
  | 0 => ("LastaskedModel", "thrown", "I", false)
  | 1 => ("LastaskedModel", "refused", "I", false)
  | 2 => ("LastaskedModel", "knocks", "I", false)
  | 3 => ("LastaskedModel", "tables", "[LLastaskedModel$Table;", true)
  | _ => ("LastaskedModel", "askings", "Ljava/util/ArrayList;", true)
def tyX8 : Nat → FieldType := fun k => match k with
  | 0 => .int
  | 1 => .int
  | 2 => .int
  | 3 => .array (.object "LastaskedModel$Table")
  | _ => .object "java/util/ArrayList"
abbrev wsX80 : List Cond := u_ws RX8 TX8 5
theorem nmX8 : ∀ a, a < 5 → ∀ b, b < 5 → a ≠ b → (TX8 a).2.1 ≠ (TX8 b).2.1 := by decide +kernel
theorem tyX8_ok : ∀ k, k < 5 → parseFieldDescriptor (TX8 k).2.2.1 = some (tyX8 k) := by decide +kernel
abbrev cX8_init : ByteArray := prog_9_method_1_code
def yX8_init : MethodName := ⟨RX8, "<init>", "()V"⟩
abbrev cX8_thrown : ByteArray := prog_9_method_2_code
def yX8_thrown : MethodName := ⟨RX8, "thrown", "()I"⟩
abbrev cX8_fails : ByteArray := prog_9_method_3_code
def yX8_fails : MethodName := ⟨RX8, "fails", "(ZZZ)Z"⟩
abbrev cX8_isOut : ByteArray := prog_9_method_4_code
def yX8_isOut : MethodName := ⟨RX8, "isOut", "(II)Z"⟩
abbrev cX8_isNo : ByteArray := prog_9_method_5_code
def yX8_isNo : MethodName := ⟨RX8, "isNo", "(I)Z"⟩
abbrev cX8_no : ByteArray := prog_9_method_6_code
def yX8_no : MethodName := ⟨RX8, "no", "()I"⟩
abbrev cX8_one : ByteArray := prog_9_method_7_code
def yX8_one : MethodName := ⟨RX8, "one", "(Z)I"⟩
abbrev cX8_make : ByteArray := prog_9_method_8_code
def yX8_make : MethodName := ⟨RX8, "make", "(IZI)I"⟩
abbrev cX8_put : ByteArray := prog_9_method_9_code
def yX8_put : MethodName := ⟨RX8, "put", "(III)I"⟩
abbrev cX8_putIfAbsent : ByteArray := prog_9_method_10_code
def yX8_putIfAbsent : MethodName := ⟨RX8, "putIfAbsent", "(III)I"⟩
abbrev cX8_got : ByteArray := prog_9_method_11_code
def yX8_got : MethodName := ⟨RX8, "got", "(III)I"⟩
abbrev cX8_isNoKey : ByteArray := prog_9_method_12_code
def yX8_isNoKey : MethodName := ⟨RX8, "isNoKey", "(II)Z"⟩
abbrev cX8_get : ByteArray := prog_9_method_13_code
def yX8_get : MethodName := ⟨RX8, "get", "(II)I"⟩
abbrev cX8_getOr : ByteArray := prog_9_method_14_code
def yX8_getOr : MethodName := ⟨RX8, "getOr", "(III)I"⟩
abbrev cX8_remove : ByteArray := prog_9_method_15_code
def yX8_remove : MethodName := ⟨RX8, "remove", "(II)I"⟩
abbrev cX8_clear : ByteArray := prog_9_method_16_code
def yX8_clear : MethodName := ⟨RX8, "clear", "(I)I"⟩
abbrev cX8_set : ByteArray := prog_9_method_17_code
def yX8_set : MethodName := ⟨RX8, "set", "(III)I"⟩
abbrev cX8_copy : ByteArray := prog_9_method_18_code
def yX8_copy : MethodName := ⟨RX8, "copy", "(II)I"⟩
abbrev cX8_has : ByteArray := prog_9_method_19_code
def yX8_has : MethodName := ⟨RX8, "has", "(II)Z"⟩
abbrev cX8_size : ByteArray := prog_9_method_20_code
def yX8_size : MethodName := ⟨RX8, "size", "(I)I"⟩
abbrev cX8_told : ByteArray := prog_9_method_21_code
def yX8_told : MethodName := ⟨RX8, "told", "(III)I"⟩
abbrev cX8_keyAt : ByteArray := prog_9_method_22_code
def yX8_keyAt : MethodName := ⟨RX8, "keyAt", "(II)I"⟩
abbrev cX8_valueAt : ByteArray := prog_9_method_23_code
def yX8_valueAt : MethodName := ⟨RX8, "valueAt", "(II)I"⟩
abbrev cX8_pairAt : ByteArray := prog_9_method_24_code
def yX8_pairAt : MethodName := ⟨RX8, "pairAt", "(II)I"⟩
abbrev cX8_placeOf : ByteArray := prog_9_method_25_code
def yX8_placeOf : MethodName := ⟨RX8, "placeOf", "(II)I"⟩
abbrev cX8_eldest : ByteArray := prog_9_method_26_code
def yX8_eldest : MethodName := ⟨RX8, "eldest", "(I)I"⟩
abbrev cX8_latest : ByteArray := prog_9_method_27_code
def yX8_latest : MethodName := ⟨RX8, "latest", "(I)I"⟩
abbrev cX8_text : ByteArray := prog_9_method_28_code
def yX8_text : MethodName := ⟨RX8, "text", "(II)Ljava/lang/String;"⟩
abbrev cX8_tableNow : ByteArray := prog_9_method_29_code
def yX8_tableNow : MethodName := ⟨RX8, "tableNow", "(II)I"⟩
abbrev cX8_ofTable : ByteArray := prog_9_method_30_code
def yX8_ofTable : MethodName := ⟨RX8, "ofTable", "(II)I"⟩
abbrev cX8_walk : ByteArray := prog_9_method_31_code
def yX8_walk : MethodName := ⟨RX8, "walk", "(II)I"⟩
abbrev cX8_step : ByteArray := prog_9_method_32_code
def yX8_step : MethodName := ⟨RX8, "step", "(I)I"⟩
abbrev cX8_cut : ByteArray := prog_9_method_33_code
def yX8_cut : MethodName := ⟨RX8, "cut", "(I)I"⟩
abbrev cX8_hasMore : ByteArray := prog_9_method_34_code
def yX8_hasMore : MethodName := ⟨RX8, "hasMore", "(I)Z"⟩
abbrev cX8_isStaleNow : ByteArray := prog_9_method_35_code
def yX8_isStaleNow : MethodName := ⟨RX8, "isStaleNow", "(I)Z"⟩
abbrev cX8_isStale : ByteArray := prog_9_method_36_code
def yX8_isStale : MethodName := ⟨RX8, "isStale", "(I)Z"⟩
abbrev cX8_rest : ByteArray := prog_9_method_37_code
def yX8_rest : MethodName := ⟨RX8, "rest", "(I)I"⟩
abbrev cX8_unlike : ByteArray := prog_9_method_38_code
def yX8_unlike : MethodName := ⟨RX8, "unlike", "(II)I"⟩
abbrev cX8_before : ByteArray := prog_9_method_39_code
def yX8_before : MethodName := ⟨RX8, "before", "(II)I"⟩
abbrev cX8_depthOf : ByteArray := prog_9_method_40_code
def yX8_depthOf : MethodName := ⟨RX8, "depthOf", "(II)I"⟩
abbrev cX8_isHit : ByteArray := prog_9_method_41_code
def yX8_isHit : MethodName := ⟨RX8, "isHit", "(II)Z"⟩
abbrev cX8_keyWith : ByteArray := prog_9_method_42_code
def yX8_keyWith : MethodName := ⟨RX8, "keyWith", "(II)I"⟩
abbrev cX8_hitsOf : ByteArray := prog_9_method_43_code
def yX8_hitsOf : MethodName := ⟨RX8, "hitsOf", "(I)I"⟩
abbrev cX8_asks : ByteArray := prog_9_method_44_code
def yX8_asks : MethodName := ⟨RX8, "asks", "(I)I"⟩
abbrev cX8_ask : ByteArray := prog_9_method_45_code
def yX8_ask : MethodName := ⟨RX8, "ask", "(I)I"⟩
abbrev cX8_askRow : ByteArray := prog_9_method_46_code
def yX8_askRow : MethodName := ⟨RX8, "askRow", "(III)I"⟩
abbrev cX8_forget : ByteArray := prog_9_method_47_code
def yX8_forget : MethodName := ⟨RX8, "forget", "()I"⟩
abbrev cX8_asked : ByteArray := prog_9_method_48_code
def yX8_asked : MethodName := ⟨RX8, "asked", "()I"⟩
abbrev cX8_askedAt : ByteArray := prog_9_method_49_code
def yX8_askedAt : MethodName := ⟨RX8, "askedAt", "(I)I"⟩
abbrev cX8_depthAt : ByteArray := prog_9_method_50_code
def yX8_depthAt : MethodName := ⟨RX8, "depthAt", "(I)I"⟩
abbrev cX8_depth : ByteArray := prog_9_method_51_code
def yX8_depth : MethodName := ⟨RX8, "depth", "(I)I"⟩
abbrev cX8_keys : ByteArray := prog_9_method_52_code
def yX8_keys : MethodName := ⟨RX8, "keys", "(I)Ljava/lang/String;"⟩
abbrev cX8_stack : ByteArray := prog_9_method_53_code
def yX8_stack : MethodName := ⟨RX8, "stack", "()Ljava/lang/String;"⟩
abbrev cX8_isNoSize : ByteArray := prog_9_method_54_code
def yX8_isNoSize : MethodName := ⟨RX8, "isNoSize", "(I)Z"⟩
abbrev cX8_kept : ByteArray := prog_9_method_55_code
def yX8_kept : MethodName := ⟨RX8, "kept", "(I)Ljava/lang/String;"⟩
abbrev cX8_isKept : ByteArray := prog_9_method_56_code
def yX8_isKept : MethodName := ⟨RX8, "isKept", "(II)Z"⟩
abbrev cX8_keeps : ByteArray := prog_9_method_57_code
def yX8_keeps : MethodName := ⟨RX8, "keeps", "(II)Z"⟩
abbrev cX8_takenNow : ByteArray := prog_9_method_58_code
def yX8_takenNow : MethodName := ⟨RX8, "takenNow", "(II)I"⟩
abbrev cX8_takenAt : ByteArray := prog_9_method_59_code
def yX8_takenAt : MethodName := ⟨RX8, "takenAt", "(II)I"⟩
abbrev cX8_missesNow : ByteArray := prog_9_method_60_code
def yX8_missesNow : MethodName := ⟨RX8, "missesNow", "(I)I"⟩
abbrev cX8_misses : ByteArray := prog_9_method_61_code
def yX8_misses : MethodName := ⟨RX8, "misses", "(I)I"⟩
abbrev cX8_hits : ByteArray := prog_9_method_62_code
def yX8_hits : MethodName := ⟨RX8, "hits", "(I)I"⟩
abbrev cX8_lostNow : ByteArray := prog_9_method_63_code
def yX8_lostNow : MethodName := ⟨RX8, "lostNow", "(I)I"⟩
abbrev cX8_lost : ByteArray := prog_9_method_64_code
def yX8_lost : MethodName := ⟨RX8, "lost", "(I)I"⟩
abbrev cX8_withDepth : ByteArray := prog_9_method_65_code
def yX8_withDepth : MethodName := ⟨RX8, "withDepth", "(I)I"⟩
abbrev cX8_bestNow : ByteArray := prog_9_method_66_code
def yX8_bestNow : MethodName := ⟨RX8, "bestNow", "(I)I"⟩
abbrev cX8_best : ByteArray := prog_9_method_67_code
def yX8_best : MethodName := ⟨RX8, "best", "(I)I"⟩
abbrev cX8_houseNow : ByteArray := prog_9_method_68_code
def yX8_houseNow : MethodName := ⟨RX8, "houseNow", "(I)I"⟩
abbrev cX8_house : ByteArray := prog_9_method_69_code
def yX8_house : MethodName := ⟨RX8, "house", "(I)I"⟩
abbrev cX8_knock : ByteArray := prog_9_method_70_code
def yX8_knock : MethodName := ⟨RX8, "knock", "()I"⟩
abbrev cX8_isSound : ByteArray := prog_9_method_71_code
def yX8_isSound : MethodName := ⟨RX8, "isSound", "()Z"⟩
abbrev cX8_addAskings : ByteArray := prog_9_method_72_code
def yX8_addAskings : MethodName := ⟨RX8, "addAskings", "(J)J"⟩
abbrev cX8_digest : ByteArray := prog_9_method_73_code
def yX8_digest : MethodName := ⟨RX8, "digest", "()J"⟩
def RJx145de : String := "java/io/Serializable"
def TJx145de : u_T := fun k => match k with
  | _ => ("", "", "", false)
def tyJx145de : Nat → FieldType := fun k => match k with
  | _ => .int
abbrev wsJx145de0 : List Cond := u_ws RJx145de TJx145de 0
theorem nmJx145de : ∀ a, a < 0 → ∀ b, b < 0 → a ≠ b → (TJx145de a).2.1 ≠ (TJx145de b).2.1 := by decide +kernel
theorem tyJx145de_ok : ∀ k, k < 0 → parseFieldDescriptor (TJx145de k).2.2.1 = some (tyJx145de k) := by decide +kernel
def RJ5 : String := "java/lang/AbstractStringBuilder"
def TJ5 : u_T := fun k => match k with
  | _ => ("", "", "", false)
def tyJ5 : Nat → FieldType := fun k => match k with
  | _ => .int
abbrev wsJ50 : List Cond := u_ws RJ5 TJ5 0
theorem nmJ5 : ∀ a, a < 0 → ∀ b, b < 0 → a ≠ b → (TJ5 a).2.1 ≠ (TJ5 b).2.1 := by decide +kernel
theorem tyJ5_ok : ∀ k, k < 0 → parseFieldDescriptor (TJ5 k).2.2.1 = some (tyJ5 k) := by decide +kernel
abbrev cJ5_init_d00df : ByteArray := prog_12_method_2_code
def yJ5_init_d00df : MethodName := ⟨RJ5, "<init>", "(I)V"⟩
abbrev cJ5_length_8abf5 : ByteArray := prog_12_method_6_code
def yJ5_length_8abf5 : MethodName := ⟨RJ5, "length", "()I"⟩
abbrev cJ5_ensureCapacityInternal_d00df : ByteArray := prog_12_method_9_code
def yJ5_ensureCapacityInternal_d00df : MethodName := ⟨RJ5, "ensureCapacityInternal", "(I)V"⟩
abbrev cJ5_newCapacity_0f7a4 : ByteArray := prog_12_method_10_code
def yJ5_newCapacity_0f7a4 : MethodName := ⟨RJ5, "newCapacity", "(I)I"⟩
abbrev cJ5_inflate_da8c8 : ByteArray := prog_12_method_11_code
def yJ5_inflate_da8c8 : MethodName := ⟨RJ5, "inflate", "()V"⟩
abbrev cJ5_append_cf1ce : ByteArray := prog_12_method_22_code
def yJ5_append_cf1ce : MethodName := ⟨RJ5, "append", "(Ljava/lang/String;)Ljava/lang/AbstractStringBuilder;"⟩
abbrev cJ5_appendNull_278bc : ByteArray := prog_12_method_26_code
def yJ5_appendNull_278bc : MethodName := ⟨RJ5, "appendNull", "()Ljava/lang/AbstractStringBuilder;"⟩
abbrev cJ5_append_3fe6f : ByteArray := prog_12_method_31_code
def yJ5_append_3fe6f : MethodName := ⟨RJ5, "append", "(C)Ljava/lang/AbstractStringBuilder;"⟩
abbrev cJ5_append_c97b9 : ByteArray := prog_12_method_32_code
def yJ5_append_c97b9 : MethodName := ⟨RJ5, "append", "(I)Ljava/lang/AbstractStringBuilder;"⟩
abbrev cJ5_getValue_6d5f1 : ByteArray := prog_12_method_64_code
def yJ5_getValue_6d5f1 : MethodName := ⟨RJ5, "getValue", "()[B"⟩
abbrev cJ5_isLatin1_aae02 : ByteArray := prog_12_method_68_code
def yJ5_isLatin1_aae02 : MethodName := ⟨RJ5, "isLatin1", "()Z"⟩
abbrev cJ5_inflateIfNeededFor_a7421 : ByteArray := prog_12_method_71_code
def yJ5_inflateIfNeededFor_a7421 : MethodName := ⟨RJ5, "inflateIfNeededFor", "(Ljava/lang/String;)V"⟩
abbrev cJ5_putStringAt_47b60 : ByteArray := prog_12_method_73_code
def yJ5_putStringAt_47b60 : MethodName := ⟨RJ5, "putStringAt", "(ILjava/lang/String;)V"⟩
def RJx2cfe8 : String := "java/lang/Appendable"
def TJx2cfe8 : u_T := fun k => match k with
  | _ => ("", "", "", false)
def tyJx2cfe8 : Nat → FieldType := fun k => match k with
  | _ => .int
abbrev wsJx2cfe80 : List Cond := u_ws RJx2cfe8 TJx2cfe8 0
theorem nmJx2cfe8 : ∀ a, a < 0 → ∀ b, b < 0 → a ≠ b → (TJx2cfe8 a).2.1 ≠ (TJx2cfe8 b).2.1 := by decide +kernel
theorem tyJx2cfe8_ok : ∀ k, k < 0 → parseFieldDescriptor (TJx2cfe8 k).2.2.1 = some (tyJx2cfe8 k) := by decide +kernel
def RJx9f9b0 : String := "java/lang/CharSequence"
def TJx9f9b0 : u_T := fun k => match k with
  | _ => ("", "", "", false)
def tyJx9f9b0 : Nat → FieldType := fun k => match k with
  | _ => .int
abbrev wsJx9f9b00 : List Cond := u_ws RJx9f9b0 TJx9f9b0 0
theorem nmJx9f9b0 : ∀ a, a < 0 → ∀ b, b < 0 → a ≠ b → (TJx9f9b0 a).2.1 ≠ (TJx9f9b0 b).2.1 := by decide +kernel
theorem tyJx9f9b0_ok : ∀ k, k < 0 → parseFieldDescriptor (TJx9f9b0 k).2.2.1 = some (tyJx9f9b0 k) := by decide +kernel
def RJx8e188 : String := "java/lang/Cloneable"
def TJx8e188 : u_T := fun k => match k with
  | _ => ("", "", "", false)
def tyJx8e188 : Nat → FieldType := fun k => match k with
  | _ => .int
abbrev wsJx8e1880 : List Cond := u_ws RJx8e188 TJx8e188 0
theorem nmJx8e188 : ∀ a, a < 0 → ∀ b, b < 0 → a ≠ b → (TJx8e188 a).2.1 ≠ (TJx8e188 b).2.1 := by decide +kernel
theorem tyJx8e188_ok : ∀ k, k < 0 → parseFieldDescriptor (TJx8e188 k).2.2.1 = some (tyJx8e188 k) := by decide +kernel
def RJxb160c : String := "java/lang/Comparable"
def TJxb160c : u_T := fun k => match k with
  | _ => ("", "", "", false)
def tyJxb160c : Nat → FieldType := fun k => match k with
  | _ => .int
abbrev wsJxb160c0 : List Cond := u_ws RJxb160c TJxb160c 0
theorem nmJxb160c : ∀ a, a < 0 → ∀ b, b < 0 → a ≠ b → (TJxb160c a).2.1 ≠ (TJxb160c b).2.1 := by decide +kernel
theorem tyJxb160c_ok : ∀ k, k < 0 → parseFieldDescriptor (TJxb160c k).2.2.1 = some (tyJxb160c k) := by decide +kernel
def RJxabbfe : String := "java/lang/Integer$IntegerCache"
def TJxabbfe : u_T := fun k => match k with
  | _ => ("", "", "", false)
def tyJxabbfe : Nat → FieldType := fun k => match k with
  | _ => .int
abbrev wsJxabbfe0 : List Cond := u_ws RJxabbfe TJxabbfe 0
theorem nmJxabbfe : ∀ a, a < 0 → ∀ b, b < 0 → a ≠ b → (TJxabbfe a).2.1 ≠ (TJxabbfe b).2.1 := by decide +kernel
theorem tyJxabbfe_ok : ∀ k, k < 0 → parseFieldDescriptor (TJxabbfe k).2.2.1 = some (tyJxabbfe k) := by decide +kernel
def RJ6 : String := "java/lang/Integer"
def TJ6 : u_T := fun k => match k with
  | _ => ("java/lang/Integer", "value", "I", true)
def tyJ6 : Nat → FieldType := fun k => match k with
  | _ => .int
abbrev wsJ60 : List Cond := u_ws RJ6 TJ6 1
theorem nmJ6 : ∀ a, a < 1 → ∀ b, b < 1 → a ≠ b → (TJ6 a).2.1 ≠ (TJ6 b).2.1 := by decide +kernel
theorem tyJ6_ok : ∀ k, k < 1 → parseFieldDescriptor (TJ6 k).2.2.1 = some (tyJ6 k) := by decide +kernel
abbrev cJ6_getChars_ba4f3 : ByteArray := prog_21_method_12_code
def yJ6_getChars_ba4f3 : MethodName := ⟨RJ6, "getChars", "(II[B)I"⟩
abbrev cJ6_stringSize_0f7a4 : ByteArray := prog_21_method_13_code
def yJ6_stringSize_0f7a4 : MethodName := ⟨RJ6, "stringSize", "(I)I"⟩
abbrev cJ6_valueOf_2dffe : ByteArray := prog_21_method_22_code
def yJ6_valueOf_2dffe : MethodName := ⟨RJ6, "valueOf", "(I)Ljava/lang/Integer;"⟩
abbrev cJ6_init_d00df : ByteArray := prog_21_method_23_code
def yJ6_init_d00df : MethodName := ⟨RJ6, "<init>", "(I)V"⟩
abbrev cJ6_intValue_8abf5 : ByteArray := prog_21_method_27_code
def yJ6_intValue_8abf5 : MethodName := ⟨RJ6, "intValue", "()I"⟩
def RJxab1ab : String := "java/lang/Iterable"
def TJxab1ab : u_T := fun k => match k with
  | _ => ("", "", "", false)
def tyJxab1ab : Nat → FieldType := fun k => match k with
  | _ => .int
abbrev wsJxab1ab0 : List Cond := u_ws RJxab1ab TJxab1ab 0
theorem nmJxab1ab : ∀ a, a < 0 → ∀ b, b < 0 → a ≠ b → (TJxab1ab a).2.1 ≠ (TJxab1ab b).2.1 := by decide +kernel
theorem tyJxab1ab_ok : ∀ k, k < 0 → parseFieldDescriptor (TJxab1ab k).2.2.1 = some (tyJxab1ab k) := by decide +kernel
def RJ9 : String := "java/lang/Math"
def TJ9 : u_T := fun k => match k with
  | _ => ("", "", "", false)
def tyJ9 : Nat → FieldType := fun k => match k with
  | _ => .int
abbrev wsJ90 : List Cond := u_ws RJ9 TJ9 0
theorem nmJ9 : ∀ a, a < 0 → ∀ b, b < 0 → a ≠ b → (TJ9 a).2.1 ≠ (TJ9 b).2.1 := by decide +kernel
theorem tyJ9_ok : ∀ k, k < 0 → parseFieldDescriptor (TJ9 k).2.2.1 = some (tyJ9 k) := by decide +kernel
abbrev cJ9_max_7cf53 : ByteArray := prog_24_method_65_code
def yJ9_max_7cf53 : MethodName := ⟨RJ9, "max", "(II)I"⟩
abbrev cJ9_min_7cf53 : ByteArray := prog_24_method_69_code
def yJ9_min_7cf53 : MethodName := ⟨RJ9, "min", "(II)I"⟩
def RJxd2413 : String := "java/lang/Number"
def TJxd2413 : u_T := fun k => match k with
  | _ => ("", "", "", false)
def tyJxd2413 : Nat → FieldType := fun k => match k with
  | _ => .int
abbrev wsJxd24130 : List Cond := u_ws RJxd2413 TJxd2413 0
theorem nmJxd2413 : ∀ a, a < 0 → ∀ b, b < 0 → a ≠ b → (TJxd2413 a).2.1 ≠ (TJxd2413 b).2.1 := by decide +kernel
theorem tyJxd2413_ok : ∀ k, k < 0 → parseFieldDescriptor (TJxd2413 k).2.2.1 = some (tyJxd2413 k) := by decide +kernel
abbrev cJxd2413_init_da8c8 : ByteArray := prog_25_method_1_code
def yJxd2413_init_da8c8 : MethodName := ⟨RJxd2413, "<init>", "()V"⟩
def RJ0 : String := "java/lang/String"
def TJ0 : u_T := fun k => match k with
  | 0 => ("java/lang/String", "value", "[B", true)
  | 1 => ("java/lang/String", "coder", "B", true)
  | 2 => ("java/lang/String", "hash", "I", false)
  | _ => ("java/lang/String", "hashIsZero", "Z", false)
def tyJ0 : Nat → FieldType := fun k => match k with
  | 0 => .array .byte
  | 1 => .byte
  | 2 => .int
  | _ => .boolean
abbrev wsJ00 : List Cond := u_ws RJ0 TJ0 4
theorem nmJ0 : ∀ a, a < 4 → ∀ b, b < 4 → a ≠ b → (TJ0 a).2.1 ≠ (TJ0 b).2.1 := by decide +kernel
theorem tyJ0_ok : ∀ k, k < 4 → parseFieldDescriptor (TJ0 k).2.2.1 = some (tyJ0 k) := by decide +kernel
abbrev cJ0_init_81219 : ByteArray := prog_27_method_53_code
def yJ0_init_81219 : MethodName := ⟨RJ0, "<init>", "(Ljava/lang/StringBuilder;)V"⟩
abbrev cJ0_length_8abf5 : ByteArray := prog_27_method_54_code
def yJ0_length_8abf5 : MethodName := ⟨RJ0, "length", "()I"⟩
abbrev cJ0_getBytes_840e7 : ByteArray := prog_27_method_147_code
def yJ0_getBytes_840e7 : MethodName := ⟨RJ0, "getBytes", "([BIB)V"⟩
abbrev cJ0_init_db425 : ByteArray := prog_27_method_150_code
def yJ0_init_db425 : MethodName := ⟨RJ0, "<init>", "(Ljava/lang/AbstractStringBuilder;Ljava/lang/Void;)V"⟩
abbrev cJ0_coder_7d493 : ByteArray := prog_27_method_152_code
def yJ0_coder_7d493 : MethodName := ⟨RJ0, "coder", "()B"⟩
abbrev cJ0_checkIndex_df160 : ByteArray := prog_27_method_155_code
def yJ0_checkIndex_df160 : MethodName := ⟨RJ0, "checkIndex", "(II)V"⟩
abbrev cJ0_checkBoundsOffCount_cabcc : ByteArray := prog_27_method_157_code
def yJ0_checkBoundsOffCount_cabcc : MethodName := ⟨RJ0, "checkBoundsOffCount", "(III)I"⟩
abbrev cJ0_checkBoundsBeginEnd_23922 : ByteArray := prog_27_method_158_code
def yJ0_checkBoundsBeginEnd_23922 : MethodName := ⟨RJ0, "checkBoundsBeginEnd", "(III)V"⟩
def RJ4 : String := "java/lang/StringBuilder"
def TJ4 : u_T := fun k => match k with
  | 0 => ("java/lang/AbstractStringBuilder", "value", "[B", false)
  | 1 => ("java/lang/AbstractStringBuilder", "coder", "B", false)
  | 2 => ("java/lang/AbstractStringBuilder", "maybeLatin1", "Z", false)
  | _ => ("java/lang/AbstractStringBuilder", "count", "I", false)
def tyJ4 : Nat → FieldType := fun k => match k with
  | 0 => .array .byte
  | 1 => .byte
  | 2 => .boolean
  | _ => .int
abbrev wsJ40 : List Cond := u_ws RJ4 TJ4 4
theorem nmJ4 : ∀ a, a < 4 → ∀ b, b < 4 → a ≠ b → (TJ4 a).2.1 ≠ (TJ4 b).2.1 := by decide +kernel
theorem tyJ4_ok : ∀ k, k < 4 → parseFieldDescriptor (TJ4 k).2.2.1 = some (tyJ4 k) := by decide +kernel
abbrev cJ4_init_da8c8 : ByteArray := prog_28_method_1_code
def yJ4_init_da8c8 : MethodName := ⟨RJ4, "<init>", "()V"⟩
abbrev cJ4_append_15ec4 : ByteArray := prog_28_method_7_code
def yJ4_append_15ec4 : MethodName := ⟨RJ4, "append", "(Ljava/lang/String;)Ljava/lang/StringBuilder;"⟩
abbrev cJ4_append_cf468 : ByteArray := prog_28_method_14_code
def yJ4_append_cf468 : MethodName := ⟨RJ4, "append", "(C)Ljava/lang/StringBuilder;"⟩
abbrev cJ4_append_bf812 : ByteArray := prog_28_method_15_code
def yJ4_append_bf812 : MethodName := ⟨RJ4, "append", "(I)Ljava/lang/StringBuilder;"⟩
abbrev cJ4_toString_0e30d : ByteArray := prog_28_method_42_code
def yJ4_toString_0e30d : MethodName := ⟨RJ4, "toString", "()Ljava/lang/String;"⟩
abbrev cJ4_length_8abf5 : ByteArray := prog_28_method_93_code
def yJ4_length_8abf5 : MethodName := ⟨RJ4, "length", "()I"⟩
def RJ1 : String := "java/lang/StringLatin1"
def TJ1 : u_T := fun k => match k with
  | _ => ("", "", "", false)
def tyJ1 : Nat → FieldType := fun k => match k with
  | _ => .int
abbrev wsJ10 : List Cond := u_ws RJ1 TJ1 0
theorem nmJ1 : ∀ a, a < 0 → ∀ b, b < 0 → a ≠ b → (TJ1 a).2.1 ≠ (TJ1 b).2.1 := by decide +kernel
theorem tyJ1_ok : ∀ k, k < 0 → parseFieldDescriptor (TJ1 k).2.2.1 = some (tyJ1 k) := by decide +kernel
abbrev cJ1_canEncode_fc78d : ByteArray := prog_29_method_3_code
def yJ1_canEncode_fc78d : MethodName := ⟨RJ1, "canEncode", "(C)Z"⟩
abbrev cJ1_inflate_0e8fd : ByteArray := prog_29_method_50_code
def yJ1_inflate_0e8fd : MethodName := ⟨RJ1, "inflate", "([BI[BII)V"⟩
def RJ2 : String := "java/lang/StringUTF16"
def TJ2 : u_T := fun k => match k with
  | _ => ("", "", "", false)
def tyJ2 : Nat → FieldType := fun k => match k with
  | _ => .int
abbrev wsJ20 : List Cond := u_ws RJ2 TJ2 0
theorem nmJ2 : ∀ a, a < 0 → ∀ b, b < 0 → a ≠ b → (TJ2 a).2.1 ≠ (TJ2 b).2.1 := by decide +kernel
theorem tyJ2_ok : ∀ k, k < 0 → parseFieldDescriptor (TJ2 k).2.2.1 = some (tyJ2 k) := by decide +kernel
abbrev cJ2_newBytesFor_77867 : ByteArray := prog_30_method_2_code
def yJ2_newBytesFor_77867 : MethodName := ⟨RJ2, "newBytesFor", "(I)[B"⟩
abbrev cJ2_newBytesLength_0f7a4 : ByteArray := prog_30_method_3_code
def yJ2_newBytesLength_0f7a4 : MethodName := ⟨RJ2, "newBytesLength", "(I)I"⟩
abbrev cJ2_putChar_b72d1 : ByteArray := prog_30_method_4_code
def yJ2_putChar_b72d1 : MethodName := ⟨RJ2, "putChar", "([BII)V"⟩
abbrev cJ2_getChar_3b067 : ByteArray := prog_30_method_5_code
def yJ2_getChar_3b067 : MethodName := ⟨RJ2, "getChar", "([BI)C"⟩
abbrev cJ2_length_9d52b : ByteArray := prog_30_method_6_code
def yJ2_length_9d52b : MethodName := ⟨RJ2, "length", "([B)I"⟩
abbrev cJ2_coderFromArrayLen_85cad : ByteArray := prog_30_method_15_code
def yJ2_coderFromArrayLen_85cad : MethodName := ⟨RJ2, "coderFromArrayLen", "([BI)B"⟩
abbrev cJ2_compress_39247 : ByteArray := prog_30_method_17_code
def yJ2_compress_39247 : MethodName := ⟨RJ2, "compress", "([BII)[B"⟩
abbrev cJ2_compress_5af95 : ByteArray := prog_30_method_22_code
def yJ2_compress_5af95 : MethodName := ⟨RJ2, "compress", "([BI[BII)I"⟩
abbrev cJ2_putCharSB_b72d1 : ByteArray := prog_30_method_71_code
def yJ2_putCharSB_b72d1 : MethodName := ⟨RJ2, "putCharSB", "([BII)V"⟩
abbrev cJ2_getChars_46870 : ByteArray := prog_30_method_77_code
def yJ2_getChars_46870 : MethodName := ⟨RJ2, "getChars", "(III[B)I"⟩
abbrev cJ2_putCharsAt_cd4e5 : ByteArray := prog_30_method_81_code
def yJ2_putCharsAt_cd4e5 : MethodName := ⟨RJ2, "putCharsAt", "([BICCCC)I"⟩
abbrev cJ2_inflate_0e8fd : ByteArray := prog_30_method_86_code
def yJ2_inflate_0e8fd : MethodName := ⟨RJ2, "inflate", "([BI[BII)V"⟩
abbrev cJ2_getChars_ba4f3 : ByteArray := prog_30_method_89_code
def yJ2_getChars_ba4f3 : MethodName := ⟨RJ2, "getChars", "(II[B)I"⟩
abbrev cJ2_checkIndex_2214a : ByteArray := prog_30_method_91_code
def yJ2_checkIndex_2214a : MethodName := ⟨RJ2, "checkIndex", "(I[B)V"⟩
abbrev cJ2_checkBoundsBeginEnd_d044e : ByteArray := prog_30_method_93_code
def yJ2_checkBoundsBeginEnd_d044e : MethodName := ⟨RJ2, "checkBoundsBeginEnd", "(II[B)V"⟩
abbrev cJ2_checkBoundsOffCount_d044e : ByteArray := prog_30_method_94_code
def yJ2_checkBoundsOffCount_d044e : MethodName := ⟨RJ2, "checkBoundsOffCount", "(II[B)V"⟩
def RJ10 : String := "java/lang/System"
def TJ10 : u_T := fun k => match k with
  | _ => ("", "", "", false)
def tyJ10 : Nat → FieldType := fun k => match k with
  | _ => .int
abbrev wsJ100 : List Cond := u_ws RJ10 TJ10 0
theorem nmJ10 : ∀ a, a < 0 → ∀ b, b < 0 → a ≠ b → (TJ10 a).2.1 ≠ (TJ10 b).2.1 := by decide +kernel
theorem tyJ10_ok : ∀ k, k < 0 → parseFieldDescriptor (TJ10 k).2.2.1 = some (tyJ10 k) := by decide +kernel
def RJxfd54e : String := "java/lang/constant/Constable"
def TJxfd54e : u_T := fun k => match k with
  | _ => ("", "", "", false)
def tyJxfd54e : Nat → FieldType := fun k => match k with
  | _ => .int
abbrev wsJxfd54e0 : List Cond := u_ws RJxfd54e TJxfd54e 0
theorem nmJxfd54e : ∀ a, a < 0 → ∀ b, b < 0 → a ≠ b → (TJxfd54e a).2.1 ≠ (TJxfd54e b).2.1 := by decide +kernel
theorem tyJxfd54e_ok : ∀ k, k < 0 → parseFieldDescriptor (TJxfd54e k).2.2.1 = some (tyJxfd54e k) := by decide +kernel
def RJx3cf43 : String := "java/lang/constant/ConstantDesc"
def TJx3cf43 : u_T := fun k => match k with
  | _ => ("", "", "", false)
def tyJx3cf43 : Nat → FieldType := fun k => match k with
  | _ => .int
abbrev wsJx3cf430 : List Cond := u_ws RJx3cf43 TJx3cf43 0
theorem nmJx3cf43 : ∀ a, a < 0 → ∀ b, b < 0 → a ≠ b → (TJx3cf43 a).2.1 ≠ (TJx3cf43 b).2.1 := by decide +kernel
theorem tyJx3cf43_ok : ∀ k, k < 0 → parseFieldDescriptor (TJx3cf43 k).2.2.1 = some (tyJx3cf43 k) := by decide +kernel
def RJxa1e45 : String := "java/util/AbstractCollection"
def TJxa1e45 : u_T := fun k => match k with
  | _ => ("", "", "", false)
def tyJxa1e45 : Nat → FieldType := fun k => match k with
  | _ => .int
abbrev wsJxa1e450 : List Cond := u_ws RJxa1e45 TJxa1e45 0
theorem nmJxa1e45 : ∀ a, a < 0 → ∀ b, b < 0 → a ≠ b → (TJxa1e45 a).2.1 ≠ (TJxa1e45 b).2.1 := by decide +kernel
theorem tyJxa1e45_ok : ∀ k, k < 0 → parseFieldDescriptor (TJxa1e45 k).2.2.1 = some (tyJxa1e45 k) := by decide +kernel
abbrev cJxa1e45_init_da8c8 : ByteArray := prog_35_method_1_code
def yJxa1e45_init_da8c8 : MethodName := ⟨RJxa1e45, "<init>", "()V"⟩
def RJxc12de : String := "java/util/AbstractList"
def TJxc12de : u_T := fun k => match k with
  | _ => ("", "", "", false)
def tyJxc12de : Nat → FieldType := fun k => match k with
  | _ => .int
abbrev wsJxc12de0 : List Cond := u_ws RJxc12de TJxc12de 0
theorem nmJxc12de : ∀ a, a < 0 → ∀ b, b < 0 → a ≠ b → (TJxc12de a).2.1 ≠ (TJxc12de b).2.1 := by decide +kernel
theorem tyJxc12de_ok : ∀ k, k < 0 → parseFieldDescriptor (TJxc12de k).2.2.1 = some (tyJxc12de k) := by decide +kernel
abbrev cJxc12de_init_da8c8 : ByteArray := prog_36_method_1_code
def yJxc12de_init_da8c8 : MethodName := ⟨RJxc12de, "<init>", "()V"⟩
def RJx35411 : String := "java/util/ArrayList$Itr"
def TJx35411 : u_T := fun k => match k with
  | 0 => ("java/util/ArrayList$Itr", "cursor", "I", false)
  | 1 => ("java/util/ArrayList$Itr", "lastRet", "I", false)
  | 2 => ("java/util/ArrayList$Itr", "expectedModCount", "I", false)
  | _ => ("java/util/ArrayList$Itr", "this$0", "Ljava/util/ArrayList;", true)
def tyJx35411 : Nat → FieldType := fun k => match k with
  | 0 => .int
  | 1 => .int
  | 2 => .int
  | _ => .object "java/util/ArrayList"
abbrev wsJx354110 : List Cond := u_ws RJx35411 TJx35411 4
theorem nmJx35411 : ∀ a, a < 4 → ∀ b, b < 4 → a ≠ b → (TJx35411 a).2.1 ≠ (TJx35411 b).2.1 := by decide +kernel
theorem tyJx35411_ok : ∀ k, k < 4 → parseFieldDescriptor (TJx35411 k).2.2.1 = some (tyJx35411 k) := by decide +kernel
abbrev cJx35411_init_45d68 : ByteArray := prog_38_method_1_code
def yJx35411_init_45d68 : MethodName := ⟨RJx35411, "<init>", "(Ljava/util/ArrayList;)V"⟩
abbrev cJx35411_hasNext_aae02 : ByteArray := prog_38_method_2_code
def yJx35411_hasNext_aae02 : MethodName := ⟨RJx35411, "hasNext", "()Z"⟩
abbrev cJx35411_next_0502b : ByteArray := prog_38_method_3_code
def yJx35411_next_0502b : MethodName := ⟨RJx35411, "next", "()Ljava/lang/Object;"⟩
abbrev cJx35411_checkForComodification_da8c8 : ByteArray := prog_38_method_6_code
def yJx35411_checkForComodification_da8c8 : MethodName := ⟨RJx35411, "checkForComodification", "()V"⟩
def RJx4a65c : String := "java/util/ArrayList"
def TJx4a65c : u_T := fun k => match k with
  | 0 => ("java/util/AbstractList", "modCount", "I", false)
  | 1 => ("java/util/ArrayList", "elementData", "[Ljava/lang/Object;", false)
  | _ => ("java/util/ArrayList", "size", "I", false)
def tyJx4a65c : Nat → FieldType := fun k => match k with
  | 0 => .int
  | 1 => .array (.object "java/lang/Object")
  | _ => .int
abbrev wsJx4a65c0 : List Cond := u_ws RJx4a65c TJx4a65c 3
theorem nmJx4a65c : ∀ a, a < 3 → ∀ b, b < 3 → a ≠ b → (TJx4a65c a).2.1 ≠ (TJx4a65c b).2.1 := by decide +kernel
theorem tyJx4a65c_ok : ∀ k, k < 3 → parseFieldDescriptor (TJx4a65c k).2.2.1 = some (tyJx4a65c k) := by decide +kernel
abbrev cJx4a65c_init_da8c8 : ByteArray := prog_37_method_2_code
def yJx4a65c_init_da8c8 : MethodName := ⟨RJx4a65c, "<init>", "()V"⟩
abbrev cJx4a65c_grow_92f84 : ByteArray := prog_37_method_6_code
def yJx4a65c_grow_92f84 : MethodName := ⟨RJx4a65c, "grow", "(I)[Ljava/lang/Object;"⟩
abbrev cJx4a65c_grow_d5877 : ByteArray := prog_37_method_7_code
def yJx4a65c_grow_d5877 : MethodName := ⟨RJx4a65c, "grow", "()[Ljava/lang/Object;"⟩
abbrev cJx4a65c_size_8abf5 : ByteArray := prog_37_method_8_code
def yJx4a65c_size_8abf5 : MethodName := ⟨RJx4a65c, "size", "()I"⟩
abbrev cJx4a65c_elementData_915e3 : ByteArray := prog_37_method_18_code
def yJx4a65c_elementData_915e3 : MethodName := ⟨RJx4a65c, "elementData", "(I)Ljava/lang/Object;"⟩
abbrev cJx4a65c_get_915e3 : ByteArray := prog_37_method_20_code
def yJx4a65c_get_915e3 : MethodName := ⟨RJx4a65c, "get", "(I)Ljava/lang/Object;"⟩
abbrev cJx4a65c_add_72be8 : ByteArray := prog_37_method_24_code
def yJx4a65c_add_72be8 : MethodName := ⟨RJx4a65c, "add", "(Ljava/lang/Object;[Ljava/lang/Object;I)V"⟩
abbrev cJx4a65c_add_9ea2d : ByteArray := prog_37_method_25_code
def yJx4a65c_add_9ea2d : MethodName := ⟨RJx4a65c, "add", "(Ljava/lang/Object;)Z"⟩
abbrev cJx4a65c_remove_915e3 : ByteArray := prog_37_method_29_code
def yJx4a65c_remove_915e3 : MethodName := ⟨RJx4a65c, "remove", "(I)Ljava/lang/Object;"⟩
abbrev cJx4a65c_fastRemove_b59b0 : ByteArray := prog_37_method_39_code
def yJx4a65c_fastRemove_b59b0 : MethodName := ⟨RJx4a65c, "fastRemove", "([Ljava/lang/Object;I)V"⟩
abbrev cJx4a65c_clear_da8c8 : ByteArray := prog_37_method_40_code
def yJx4a65c_clear_da8c8 : MethodName := ⟨RJx4a65c, "clear", "()V"⟩
abbrev cJx4a65c_iterator_32c93 : ByteArray := prog_37_method_55_code
def yJx4a65c_iterator_32c93 : MethodName := ⟨RJx4a65c, "iterator", "()Ljava/util/Iterator;"⟩
def RJ7 : String := "java/util/Arrays"
def TJ7 : u_T := fun k => match k with
  | _ => ("", "", "", false)
def tyJ7 : Nat → FieldType := fun k => match k with
  | _ => .int
abbrev wsJ70 : List Cond := u_ws RJ7 TJ7 0
theorem nmJ7 : ∀ a, a < 0 → ∀ b, b < 0 → a ≠ b → (TJ7 a).2.1 ≠ (TJ7 b).2.1 := by decide +kernel
theorem tyJ7_ok : ∀ k, k < 0 → parseFieldDescriptor (TJ7 k).2.2.1 = some (tyJ7 k) := by decide +kernel
abbrev cJ7_copyOf_1904c : ByteArray := prog_39_method_119_code
def yJ7_copyOf_1904c : MethodName := ⟨RJ7, "copyOf", "([Ljava/lang/Object;I)[Ljava/lang/Object;"⟩
abbrev cJ7_copyOf_6403c : ByteArray := prog_39_method_120_code
def yJ7_copyOf_6403c : MethodName := ⟨RJ7, "copyOf", "([Ljava/lang/Object;ILjava/lang/Class;)[Ljava/lang/Object;"⟩
abbrev cJ7_copyOf_9075b : ByteArray := prog_39_method_121_code
def yJ7_copyOf_9075b : MethodName := ⟨RJ7, "copyOf", "([BI)[B"⟩
abbrev cJ7_checkLength_df160 : ByteArray := prog_39_method_131_code
def yJ7_checkLength_df160 : MethodName := ⟨RJ7, "checkLength", "(II)V"⟩
abbrev cJ7_copyOfRange_39247 : ByteArray := prog_39_method_132_code
def yJ7_copyOfRange_39247 : MethodName := ⟨RJ7, "copyOfRange", "([BII)[B"⟩
abbrev cJ7_copyOfRangeByte_39247 : ByteArray := prog_39_method_133_code
def yJ7_copyOfRangeByte_39247 : MethodName := ⟨RJ7, "copyOfRangeByte", "([BII)[B"⟩
def RJx5ef63 : String := "java/util/Collection"
def TJx5ef63 : u_T := fun k => match k with
  | _ => ("", "", "", false)
def tyJx5ef63 : Nat → FieldType := fun k => match k with
  | _ => .int
abbrev wsJx5ef630 : List Cond := u_ws RJx5ef63 TJx5ef63 0
theorem nmJx5ef63 : ∀ a, a < 0 → ∀ b, b < 0 → a ≠ b → (TJx5ef63 a).2.1 ≠ (TJx5ef63 b).2.1 := by decide +kernel
theorem tyJx5ef63_ok : ∀ k, k < 0 → parseFieldDescriptor (TJx5ef63 k).2.2.1 = some (tyJx5ef63 k) := by decide +kernel
def RJx4d0d8 : String := "java/util/Iterator"
def TJx4d0d8 : u_T := fun k => match k with
  | _ => ("", "", "", false)
def tyJx4d0d8 : Nat → FieldType := fun k => match k with
  | _ => .int
abbrev wsJx4d0d80 : List Cond := u_ws RJx4d0d8 TJx4d0d8 0
theorem nmJx4d0d8 : ∀ a, a < 0 → ∀ b, b < 0 → a ≠ b → (TJx4d0d8 a).2.1 ≠ (TJx4d0d8 b).2.1 := by decide +kernel
theorem tyJx4d0d8_ok : ∀ k, k < 0 → parseFieldDescriptor (TJx4d0d8 k).2.2.1 = some (tyJx4d0d8 k) := by decide +kernel
def RJxbd725 : String := "java/util/List"
def TJxbd725 : u_T := fun k => match k with
  | _ => ("", "", "", false)
def tyJxbd725 : Nat → FieldType := fun k => match k with
  | _ => .int
abbrev wsJxbd7250 : List Cond := u_ws RJxbd725 TJxbd725 0
theorem nmJxbd725 : ∀ a, a < 0 → ∀ b, b < 0 → a ≠ b → (TJxbd725 a).2.1 ≠ (TJxbd725 b).2.1 := by decide +kernel
theorem tyJxbd725_ok : ∀ k, k < 0 → parseFieldDescriptor (TJxbd725 k).2.2.1 = some (tyJxbd725 k) := by decide +kernel
def RJ15 : String := "java/util/Objects"
def TJ15 : u_T := fun k => match k with
  | _ => ("", "", "", false)
def tyJ15 : Nat → FieldType := fun k => match k with
  | _ => .int
abbrev wsJ150 : List Cond := u_ws RJ15 TJ15 0
theorem nmJ15 : ∀ a, a < 0 → ∀ b, b < 0 → a ≠ b → (TJ15 a).2.1 ≠ (TJ15 b).2.1 := by decide +kernel
theorem tyJ15_ok : ∀ k, k < 0 → parseFieldDescriptor (TJ15 k).2.2.1 = some (tyJ15 k) := by decide +kernel
abbrev cJ15_checkIndex_7cf53 : ByteArray := prog_43_method_17_code
def yJ15_checkIndex_7cf53 : MethodName := ⟨RJ15, "checkIndex", "(II)I"⟩
def RJxf0a74 : String := "java/util/RandomAccess"
def TJxf0a74 : u_T := fun k => match k with
  | _ => ("", "", "", false)
def tyJxf0a74 : Nat → FieldType := fun k => match k with
  | _ => .int
abbrev wsJxf0a740 : List Cond := u_ws RJxf0a74 TJxf0a74 0
theorem nmJxf0a74 : ∀ a, a < 0 → ∀ b, b < 0 → a ≠ b → (TJxf0a74 a).2.1 ≠ (TJxf0a74 b).2.1 := by decide +kernel
theorem tyJxf0a74_ok : ∀ k, k < 0 → parseFieldDescriptor (TJxf0a74 k).2.2.1 = some (tyJxf0a74 k) := by decide +kernel
def RJxa66e6 : String := "java/util/SequencedCollection"
def TJxa66e6 : u_T := fun k => match k with
  | _ => ("", "", "", false)
def tyJxa66e6 : Nat → FieldType := fun k => match k with
  | _ => .int
abbrev wsJxa66e60 : List Cond := u_ws RJxa66e6 TJxa66e6 0
theorem nmJxa66e6 : ∀ a, a < 0 → ∀ b, b < 0 → a ≠ b → (TJxa66e6 a).2.1 ≠ (TJxa66e6 b).2.1 := by decide +kernel
theorem tyJxa66e6_ok : ∀ k, k < 0 → parseFieldDescriptor (TJxa66e6 k).2.2.1 = some (tyJxa66e6 k) := by decide +kernel
def RJ8 : String := "jdk/internal/util/ArraysSupport"
def TJ8 : u_T := fun k => match k with
  | _ => ("", "", "", false)
def tyJ8 : Nat → FieldType := fun k => match k with
  | _ => .int
abbrev wsJ80 : List Cond := u_ws RJ8 TJ8 0
theorem nmJ8 : ∀ a, a < 0 → ∀ b, b < 0 → a ≠ b → (TJ8 a).2.1 ≠ (TJ8 b).2.1 := by decide +kernel
theorem tyJ8_ok : ∀ k, k < 0 → parseFieldDescriptor (TJ8 k).2.2.1 = some (tyJ8 k) := by decide +kernel
abbrev cJ8_newLength_cabcc : ByteArray := prog_46_method_27_code
def yJ8_newLength_cabcc : MethodName := ⟨RJ8, "newLength", "(III)I"⟩
abbrev cJ8_hugeLength_7cf53 : ByteArray := prog_46_method_28_code
def yJ8_hugeLength_7cf53 : MethodName := ⟨RJ8, "hugeLength", "(II)I"⟩
def RJ3 : String := "jdk/internal/util/Preconditions"
def TJ3 : u_T := fun k => match k with
  | _ => ("", "", "", false)
def tyJ3 : Nat → FieldType := fun k => match k with
  | _ => .int
abbrev wsJ30 : List Cond := u_ws RJ3 TJ3 0
theorem nmJ3 : ∀ a, a < 0 → ∀ b, b < 0 → a ≠ b → (TJ3 a).2.1 ≠ (TJ3 b).2.1 := by decide +kernel
theorem tyJ3_ok : ∀ k, k < 0 → parseFieldDescriptor (TJ3 k).2.2.1 = some (tyJ3 k) := by decide +kernel
abbrev cJ3_checkIndex_8e157 : ByteArray := prog_47_method_11_code
def yJ3_checkIndex_8e157 : MethodName := ⟨RJ3, "checkIndex", "(IILjava/util/function/BiFunction;)I"⟩
abbrev cJ3_checkFromToIndex_8c36e : ByteArray := prog_47_method_12_code
def yJ3_checkFromToIndex_8c36e : MethodName := ⟨RJ3, "checkFromToIndex", "(IIILjava/util/function/BiFunction;)I"⟩
abbrev cJ3_checkFromIndexSize_8c36e : ByteArray := prog_47_method_13_code
def yJ3_checkFromIndexSize_8c36e : MethodName := ⟨RJ3, "checkFromIndexSize", "(IIILjava/util/function/BiFunction;)I"⟩
def RL : String := "LastaskedLaw"
abbrev cL_make : ByteArray := method_2_code
def yL_make : MethodName := ⟨RL, "make", "(LLastasked;IZILLastaskedLaw$Out;)I"⟩
abbrev cL_put : ByteArray := method_3_code
def yL_put : MethodName := ⟨RL, "put", "(LLastasked;IIILLastaskedLaw$Out;)I"⟩
abbrev cL_putIfAbsent : ByteArray := method_4_code
def yL_putIfAbsent : MethodName := ⟨RL, "putIfAbsent", "(LLastasked;IIILLastaskedLaw$Out;)I"⟩
abbrev cL_get : ByteArray := method_5_code
def yL_get : MethodName := ⟨RL, "get", "(LLastasked;IILLastaskedLaw$Out;)I"⟩
abbrev cL_getOr : ByteArray := method_6_code
def yL_getOr : MethodName := ⟨RL, "getOr", "(LLastasked;IIILLastaskedLaw$Out;)I"⟩
abbrev cL_remove : ByteArray := method_7_code
def yL_remove : MethodName := ⟨RL, "remove", "(LLastasked;IILLastaskedLaw$Out;)I"⟩
abbrev cL_clear : ByteArray := method_8_code
def yL_clear : MethodName := ⟨RL, "clear", "(LLastasked;ILLastaskedLaw$Out;)I"⟩
abbrev cL_set : ByteArray := method_9_code
def yL_set : MethodName := ⟨RL, "set", "(LLastasked;IIILLastaskedLaw$Out;)I"⟩
abbrev cL_copy : ByteArray := method_10_code
def yL_copy : MethodName := ⟨RL, "copy", "(LLastasked;IILLastaskedLaw$Out;)I"⟩
abbrev cL_has : ByteArray := method_11_code
def yL_has : MethodName := ⟨RL, "has", "(LLastasked;IILLastaskedLaw$Out;)I"⟩
abbrev cL_size : ByteArray := method_12_code
def yL_size : MethodName := ⟨RL, "size", "(LLastasked;ILLastaskedLaw$Out;)I"⟩
abbrev cL_keyAt : ByteArray := method_13_code
def yL_keyAt : MethodName := ⟨RL, "keyAt", "(LLastasked;IILLastaskedLaw$Out;)I"⟩
abbrev cL_valueAt : ByteArray := method_14_code
def yL_valueAt : MethodName := ⟨RL, "valueAt", "(LLastasked;IILLastaskedLaw$Out;)I"⟩
abbrev cL_pairAt : ByteArray := method_15_code
def yL_pairAt : MethodName := ⟨RL, "pairAt", "(LLastasked;IILLastaskedLaw$Out;)I"⟩
abbrev cL_placeOf : ByteArray := method_16_code
def yL_placeOf : MethodName := ⟨RL, "placeOf", "(LLastasked;IILLastaskedLaw$Out;)I"⟩
abbrev cL_eldest : ByteArray := method_17_code
def yL_eldest : MethodName := ⟨RL, "eldest", "(LLastasked;ILLastaskedLaw$Out;)I"⟩
abbrev cL_latest : ByteArray := method_18_code
def yL_latest : MethodName := ⟨RL, "latest", "(LLastasked;ILLastaskedLaw$Out;)I"⟩
abbrev cL_text : ByteArray := method_19_code
def yL_text : MethodName := ⟨RL, "text", "(LLastasked;IILLastaskedLaw$Out;)I"⟩
abbrev cL_ofTable : ByteArray := method_20_code
def yL_ofTable : MethodName := ⟨RL, "ofTable", "(LLastasked;IILLastaskedLaw$Out;)I"⟩
abbrev cL_walk : ByteArray := method_21_code
def yL_walk : MethodName := ⟨RL, "walk", "(LLastasked;IILLastaskedLaw$Out;)I"⟩
abbrev cL_step : ByteArray := method_22_code
def yL_step : MethodName := ⟨RL, "step", "(LLastasked;ILLastaskedLaw$Out;)I"⟩
abbrev cL_cut : ByteArray := method_23_code
def yL_cut : MethodName := ⟨RL, "cut", "(LLastasked;ILLastaskedLaw$Out;)I"⟩
abbrev cL_hasMore : ByteArray := method_24_code
def yL_hasMore : MethodName := ⟨RL, "hasMore", "(LLastasked;ILLastaskedLaw$Out;)I"⟩
abbrev cL_isStale : ByteArray := method_25_code
def yL_isStale : MethodName := ⟨RL, "isStale", "(LLastasked;ILLastaskedLaw$Out;)I"⟩
abbrev cL_rest : ByteArray := method_26_code
def yL_rest : MethodName := ⟨RL, "rest", "(LLastasked;ILLastaskedLaw$Out;)I"⟩
abbrev cL_ask : ByteArray := method_27_code
def yL_ask : MethodName := ⟨RL, "ask", "(LLastasked;ILLastaskedLaw$Out;)I"⟩
abbrev cL_askRow : ByteArray := method_28_code
def yL_askRow : MethodName := ⟨RL, "askRow", "(LLastasked;IIILLastaskedLaw$Out;)I"⟩
abbrev cL_depth : ByteArray := method_29_code
def yL_depth : MethodName := ⟨RL, "depth", "(LLastasked;ILLastaskedLaw$Out;)I"⟩
abbrev cL_kept : ByteArray := method_30_code
def yL_kept : MethodName := ⟨RL, "kept", "(LLastasked;ILLastaskedLaw$Out;)I"⟩
abbrev cL_keeps : ByteArray := method_31_code
def yL_keeps : MethodName := ⟨RL, "keeps", "(LLastasked;IILLastaskedLaw$Out;)I"⟩
abbrev cL_takenAt : ByteArray := method_32_code
def yL_takenAt : MethodName := ⟨RL, "takenAt", "(LLastasked;IILLastaskedLaw$Out;)I"⟩
abbrev cL_misses : ByteArray := method_33_code
def yL_misses : MethodName := ⟨RL, "misses", "(LLastasked;ILLastaskedLaw$Out;)I"⟩
abbrev cL_hits : ByteArray := method_34_code
def yL_hits : MethodName := ⟨RL, "hits", "(LLastasked;ILLastaskedLaw$Out;)I"⟩
abbrev cL_lost : ByteArray := method_35_code
def yL_lost : MethodName := ⟨RL, "lost", "(LLastasked;ILLastaskedLaw$Out;)I"⟩
abbrev cL_best : ByteArray := method_36_code
def yL_best : MethodName := ⟨RL, "best", "(LLastasked;ILLastaskedLaw$Out;)I"⟩
abbrev cL_house : ByteArray := method_37_code
def yL_house : MethodName := ⟨RL, "house", "(LLastasked;ILLastaskedLaw$Out;)I"⟩
abbrev cL_law : ByteArray := code
def yL_law : MethodName := ⟨RL, "law", "([I)Z"⟩
abbrev vwCl : List vw_C := [(RJ0, TJ0, 4), (RJ4, TJ4, 4), (RJ6, TJ6, 1), (RJx35411, TJx35411, 4), (RJx4a65c, TJx4a65c, 3), (RX0, TX0, 6), (RX1, TX1, 3), (RX2, TX2, 7), (RX3, TX3, 2), (RX4, TX4, 6), (RX5, TX5, 7), (RX6, TX6, 2), (RX7, TX7, 9), (RX8, TX8, 5)]
