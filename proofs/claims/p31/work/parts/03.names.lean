/-! ===== BEGIN printed: names, fields, word lists, decode rows ===== -/
def RX0 : String := "EchoRegistry$Chart"
def TX0 : u_T := fun k => match k with
  | 0 => ("EchoRegistry$Chart", "heights", "[I", true)
  | 1 => ("EchoRegistry$Chart", "marks", "[I", true)
  | 2 => ("EchoRegistry$Chart", "turns", "[I", true)
  | 3 => ("EchoRegistry$Chart", "lowest", "[I", true)
  | 4 => ("EchoRegistry$Chart", "reached", "[I", true)
  | 5 => ("EchoRegistry$Chart", "reachedIn", "[I", true)
  | 6 => ("EchoRegistry$Chart", "marksLaid", "I", false)
  | _ => ("EchoRegistry$Chart", "outing", "I", false)
def tyX0 : Nat → FieldType := fun k => match k with
  | 0 => .array .int
  | 1 => .array .int
  | 2 => .array .int
  | 3 => .array .int
  | 4 => .array .int
  | 5 => .array .int
  | 6 => .int
  | _ => .int
theorem nmX0 : ∀ a, a < 8 → ∀ b, b < 8 → a ≠ b → (TX0 a).2.1 ≠ (TX0 b).2.1 := by decide +kernel
theorem tyX0_ok : ∀ k, k < 8 → parseFieldDescriptor (TX0 k).2.2.1 = some (tyX0 k) := by decide +kernel
abbrev cX0_init : ByteArray := prog_2_method_1_code
def yX0_init : MethodName := ⟨RX0, "<init>", "()V"⟩
abbrev cX0_heightAt : ByteArray := prog_2_method_2_code
def yX0_heightAt : MethodName := ⟨RX0, "heightAt", "(I)I"⟩
abbrev cX0_setHeight : ByteArray := prog_2_method_3_code
def yX0_setHeight : MethodName := ⟨RX0, "setHeight", "(II)V"⟩
abbrev cX0_shapeAt : ByteArray := prog_2_method_4_code
def yX0_shapeAt : MethodName := ⟨RX0, "shapeAt", "(I)I"⟩
abbrev cX0_joinShapes : ByteArray := prog_2_method_5_code
def yX0_joinShapes : MethodName := ⟨RX0, "joinShapes", "()V"⟩
abbrev cX0_tellShape : ByteArray := prog_2_method_6_code
def yX0_tellShape : MethodName := ⟨RX0, "tellShape", "(II)V"⟩
abbrev cX0_goOut : ByteArray := prog_2_method_7_code
def yX0_goOut : MethodName := ⟨RX0, "goOut", "(I)I"⟩
abbrev cX0_reach : ByteArray := prog_2_method_8_code
def yX0_reach : MethodName := ⟨RX0, "reach", "(II)I"⟩
abbrev cX0_isReached : ByteArray := prog_2_method_9_code
def yX0_isReached : MethodName := ⟨RX0, "isReached", "(II)Z"⟩
abbrev cX0_nameOfReached : ByteArray := prog_2_method_10_code
def yX0_nameOfReached : MethodName := ⟨RX0, "nameOfReached", "(I)I"⟩
abbrev cX0_nameOfShape : ByteArray := prog_2_method_11_code
def yX0_nameOfShape : MethodName := ⟨RX0, "nameOfShape", "(I)I"⟩
abbrev cX0_layMark : ByteArray := prog_2_method_12_code
def yX0_layMark : MethodName := ⟨RX0, "layMark", "(II)V"⟩
abbrev cX0_countShapes : ByteArray := prog_2_method_13_code
def yX0_countShapes : MethodName := ⟨RX0, "countShapes", "()I"⟩
abbrev cX0_countCells : ByteArray := prog_2_method_14_code
def yX0_countCells : MethodName := ⟨RX0, "countCells", "(I)I"⟩
abbrev cX0_greatestHeight : ByteArray := prog_2_method_15_code
def yX0_greatestHeight : MethodName := ⟨RX0, "greatestHeight", "(I)I"⟩
abbrev cX0_isIn : ByteArray := prog_2_method_16_code
def yX0_isIn : MethodName := ⟨RX0, "isIn", "(II)Z"⟩
def RX1 : String := "EchoRegistry$ClaimBook"
def TX1 : u_T := fun k => match k with
  | 0 => ("EchoRegistry$ClaimBook", "finders", "[I", true)
  | 1 => ("EchoRegistry$ClaimBook", "cells", "[I", true)
  | 2 => ("EchoRegistry$ClaimBook", "ends", "[I", true)
  | _ => ("EchoRegistry$ClaimBook", "count", "I", false)
def tyX1 : Nat → FieldType := fun k => match k with
  | 0 => .array .int
  | 1 => .array .int
  | 2 => .array .int
  | _ => .int
theorem nmX1 : ∀ a, a < 4 → ∀ b, b < 4 → a ≠ b → (TX1 a).2.1 ≠ (TX1 b).2.1 := by decide +kernel
theorem tyX1_ok : ∀ k, k < 4 → parseFieldDescriptor (TX1 k).2.2.1 = some (tyX1 k) := by decide +kernel
abbrev cX1_init : ByteArray := prog_3_method_1_code
def yX1_init : MethodName := ⟨RX1, "<init>", "()V"⟩
abbrev cX1_count : ByteArray := prog_3_method_2_code
def yX1_count : MethodName := ⟨RX1, "count", "()I"⟩
abbrev cX1_isFull : ByteArray := prog_3_method_3_code
def yX1_isFull : MethodName := ⟨RX1, "isFull", "()Z"⟩
abbrev cX1_has : ByteArray := prog_3_method_4_code
def yX1_has : MethodName := ⟨RX1, "has", "(I)Z"⟩
abbrev cX1_enter : ByteArray := prog_3_method_5_code
def yX1_enter : MethodName := ⟨RX1, "enter", "(III)I"⟩
abbrev cX1_finderOf : ByteArray := prog_3_method_6_code
def yX1_finderOf : MethodName := ⟨RX1, "finderOf", "(I)I"⟩
abbrev cX1_cellOf : ByteArray := prog_3_method_7_code
def yX1_cellOf : MethodName := ⟨RX1, "cellOf", "(I)I"⟩
abbrev cX1_isRunning : ByteArray := prog_3_method_8_code
def yX1_isRunning : MethodName := ⟨RX1, "isRunning", "(II)Z"⟩
abbrev cX1_startTerm : ByteArray := prog_3_method_9_code
def yX1_startTerm : MethodName := ⟨RX1, "startTerm", "(II)I"⟩
def RX2 : String := "EchoRegistry$Crew"
def TX2 : u_T := fun k => match k with
  | 0 => ("EchoRegistry$Crew", "airs", "[I", true)
  | _ => ("EchoRegistry$Crew", "freeFrom", "[I", true)
def tyX2 : Nat → FieldType := fun k => match k with
  | 0 => .array .int
  | _ => .array .int
theorem nmX2 : ∀ a, a < 2 → ∀ b, b < 2 → a ≠ b → (TX2 a).2.1 ≠ (TX2 b).2.1 := by decide +kernel
theorem tyX2_ok : ∀ k, k < 2 → parseFieldDescriptor (TX2 k).2.2.1 = some (tyX2 k) := by decide +kernel
abbrev cX2_init : ByteArray := prog_4_method_1_code
def yX2_init : MethodName := ⟨RX2, "<init>", "()V"⟩
abbrev cX2_isDiver : ByteArray := prog_4_method_2_code
def yX2_isDiver : MethodName := ⟨RX2, "isDiver", "(I)Z"⟩
abbrev cX2_airForDive : ByteArray := prog_4_method_3_code
def yX2_airForDive : MethodName := ⟨RX2, "airForDive", "(II)I"⟩
abbrev cX2_airOf : ByteArray := prog_4_method_4_code
def yX2_airOf : MethodName := ⟨RX2, "airOf", "(I)I"⟩
abbrev cX2_minutesUntilFree : ByteArray := prog_4_method_5_code
def yX2_minutesUntilFree : MethodName := ⟨RX2, "minutesUntilFree", "(II)I"⟩
abbrev cX2_isFree : ByteArray := prog_4_method_6_code
def yX2_isFree : MethodName := ⟨RX2, "isFree", "(II)Z"⟩
abbrev cX2_dive : ByteArray := prog_4_method_7_code
def yX2_dive : MethodName := ⟨RX2, "dive", "(IIII)V"⟩
abbrev cX2_fillBottle : ByteArray := prog_4_method_8_code
def yX2_fillBottle : MethodName := ⟨RX2, "fillBottle", "(I)I"⟩
abbrev cX2_longestDive : ByteArray := prog_4_method_9_code
def yX2_longestDive : MethodName := ⟨RX2, "longestDive", "(II)I"⟩
def RX3 : String := "EchoRegistry$Ledger"
def TX3 : u_T := fun k => match k with
  | 0 => ("EchoRegistry$Ledger", "shapesBehind", "[I", true)
  | 1 => ("EchoRegistry$Ledger", "findersBehind", "[I", true)
  | 2 => ("EchoRegistry$Ledger", "rewards", "[I", true)
  | 3 => ("EchoRegistry$Ledger", "count", "I", false)
  | _ => ("EchoRegistry$Ledger", "lawsSum", "I", false)
def tyX3 : Nat → FieldType := fun k => match k with
  | 0 => .array .int
  | 1 => .array .int
  | 2 => .array .int
  | 3 => .int
  | _ => .int
theorem nmX3 : ∀ a, a < 5 → ∀ b, b < 5 → a ≠ b → (TX3 a).2.1 ≠ (TX3 b).2.1 := by decide +kernel
theorem tyX3_ok : ∀ k, k < 5 → parseFieldDescriptor (TX3 k).2.2.1 = some (tyX3 k) := by decide +kernel
abbrev cX3_init : ByteArray := prog_5_method_1_code
def yX3_init : MethodName := ⟨RX3, "<init>", "()V"⟩
abbrev cX3_count : ByteArray := prog_5_method_2_code
def yX3_count : MethodName := ⟨RX3, "count", "()I"⟩
abbrev cX3_isFull : ByteArray := prog_5_method_3_code
def yX3_isFull : MethodName := ⟨RX3, "isFull", "()Z"⟩
abbrev cX3_has : ByteArray := prog_5_method_4_code
def yX3_has : MethodName := ⟨RX3, "has", "(I)Z"⟩
abbrev cX3_enter : ByteArray := prog_5_method_5_code
def yX3_enter : MethodName := ⟨RX3, "enter", "(IIII)I"⟩
abbrev cX3_share : ByteArray := prog_5_method_6_code
def yX3_share : MethodName := ⟨RX3, "share", "(III)V"⟩
abbrev cX3_isFinder : ByteArray := prog_5_method_7_code
def yX3_isFinder : MethodName := ⟨RX3, "isFinder", "(I)Z"⟩
abbrev cX3_lawsPart : ByteArray := prog_5_method_8_code
def yX3_lawsPart : MethodName := ⟨RX3, "lawsPart", "(II)I"⟩
abbrev cX3_shapeBehind : ByteArray := prog_5_method_9_code
def yX3_shapeBehind : MethodName := ⟨RX3, "shapeBehind", "(I)I"⟩
abbrev cX3_finderBehind : ByteArray := prog_5_method_10_code
def yX3_finderBehind : MethodName := ⟨RX3, "finderBehind", "(I)I"⟩
abbrev cX3_rewardOf : ByteArray := prog_5_method_11_code
def yX3_rewardOf : MethodName := ⟨RX3, "rewardOf", "(I)I"⟩
abbrev cX3_keptByLaw : ByteArray := prog_5_method_12_code
def yX3_keptByLaw : MethodName := ⟨RX3, "keptByLaw", "()I"⟩
def RX4 : String := "EchoRegistry"
def TX4 : u_T := fun k => match k with
  | 0 => ("EchoRegistry", "chart", "LEchoRegistry$Chart;", true)
  | 1 => ("EchoRegistry", "crew", "LEchoRegistry$Crew;", true)
  | 2 => ("EchoRegistry", "book", "LEchoRegistry$ClaimBook;", true)
  | 3 => ("EchoRegistry", "ledger", "LEchoRegistry$Ledger;", true)
  | 4 => ("EchoRegistry", "title", "Ljava/lang/StringBuilder;", true)
  | _ => ("EchoRegistry", "now", "I", false)
def tyX4 : Nat → FieldType := fun k => match k with
  | 0 => .object "EchoRegistry$Chart"
  | 1 => .object "EchoRegistry$Crew"
  | 2 => .object "EchoRegistry$ClaimBook"
  | 3 => .object "EchoRegistry$Ledger"
  | 4 => .object "java/lang/StringBuilder"
  | _ => .int
theorem nmX4 : ∀ a, a < 6 → ∀ b, b < 6 → a ≠ b → (TX4 a).2.1 ≠ (TX4 b).2.1 := by decide +kernel
theorem tyX4_ok : ∀ k, k < 6 → parseFieldDescriptor (TX4 k).2.2.1 = some (tyX4 k) := by decide +kernel
abbrev cX4_init : ByteArray := prog_1_method_1_code
def yX4_init : MethodName := ⟨RX4, "<init>", "()V"⟩
abbrev cX4_sound : ByteArray := prog_1_method_2_code
def yX4_sound : MethodName := ⟨RX4, "sound", "(II)I"⟩
abbrev cX4_sweep : ByteArray := prog_1_method_3_code
def yX4_sweep : MethodName := ⟨RX4, "sweep", "(III)I"⟩
abbrev cX4_shapes : ByteArray := prog_1_method_4_code
def yX4_shapes : MethodName := ⟨RX4, "shapes", "()I"⟩
abbrev cX4_shapeOf : ByteArray := prog_1_method_5_code
def yX4_shapeOf : MethodName := ⟨RX4, "shapeOf", "(I)I"⟩
abbrev cX4_size : ByteArray := prog_1_method_6_code
def yX4_size : MethodName := ⟨RX4, "size", "(I)I"⟩
abbrev cX4_top : ByteArray := prog_1_method_7_code
def yX4_top : MethodName := ⟨RX4, "top", "(I)I"⟩
abbrev cX4_nameOf : ByteArray := prog_1_method_8_code
def yX4_nameOf : MethodName := ⟨RX4, "nameOf", "(I)I"⟩
abbrev cX4_titleAt : ByteArray := prog_1_method_9_code
def yX4_titleAt : MethodName := ⟨RX4, "titleAt", "(II)I"⟩
abbrev cX4_name : ByteArray := prog_1_method_10_code
def yX4_name : MethodName := ⟨RX4, "name", "(IIII)I"⟩
abbrev cX4_raise : ByteArray := prog_1_method_11_code
def yX4_raise : MethodName := ⟨RX4, "raise", "(IIII)I"⟩
abbrev cX4_fill : ByteArray := prog_1_method_12_code
def yX4_fill : MethodName := ⟨RX4, "fill", "(I)I"⟩
abbrev cX4_air : ByteArray := prog_1_method_13_code
def yX4_air : MethodName := ⟨RX4, "air", "(I)I"⟩
abbrev cX4_rest : ByteArray := prog_1_method_14_code
def yX4_rest : MethodName := ⟨RX4, "rest", "(I)I"⟩
abbrev cX4_longest : ByteArray := prog_1_method_15_code
def yX4_longest : MethodName := ⟨RX4, "longest", "(II)I"⟩
abbrev cX4_claim : ByteArray := prog_1_method_16_code
def yX4_claim : MethodName := ⟨RX4, "claim", "(II)I"⟩
abbrev cX4_renew : ByteArray := prog_1_method_17_code
def yX4_renew : MethodName := ⟨RX4, "renew", "(I)I"⟩
abbrev cX4_advance : ByteArray := prog_1_method_18_code
def yX4_advance : MethodName := ⟨RX4, "advance", "(I)I"⟩
abbrev cX4_minute : ByteArray := prog_1_method_19_code
def yX4_minute : MethodName := ⟨RX4, "minute", "()I"⟩
abbrev cX4_finder : ByteArray := prog_1_method_20_code
def yX4_finder : MethodName := ⟨RX4, "finder", "(I)I"⟩
abbrev cX4_finderBySoundings : ByteArray := prog_1_method_21_code
def yX4_finderBySoundings : MethodName := ⟨RX4, "finderBySoundings", "(I)I"⟩
abbrev cX4_claims : ByteArray := prog_1_method_22_code
def yX4_claims : MethodName := ⟨RX4, "claims", "()I"⟩
abbrev cX4_runs : ByteArray := prog_1_method_23_code
def yX4_runs : MethodName := ⟨RX4, "runs", "(I)Z"⟩
abbrev cX4_holds : ByteArray := prog_1_method_24_code
def yX4_holds : MethodName := ⟨RX4, "holds", "(I)Z"⟩
abbrev cX4_things : ByteArray := prog_1_method_25_code
def yX4_things : MethodName := ⟨RX4, "things", "()I"⟩
abbrev cX4_shapeOfThing : ByteArray := prog_1_method_26_code
def yX4_shapeOfThing : MethodName := ⟨RX4, "shapeOfThing", "(I)I"⟩
abbrev cX4_finderOfThing : ByteArray := prog_1_method_27_code
def yX4_finderOfThing : MethodName := ⟨RX4, "finderOfThing", "(I)I"⟩
abbrev cX4_reward : ByteArray := prog_1_method_28_code
def yX4_reward : MethodName := ⟨RX4, "reward", "(I)I"⟩
abbrev cX4_kept : ByteArray := prog_1_method_29_code
def yX4_kept : MethodName := ⟨RX4, "kept", "()I"⟩
abbrev cX4_claimOnShape : ByteArray := prog_1_method_30_code
def yX4_claimOnShape : MethodName := ⟨RX4, "claimOnShape", "(I)I"⟩
abbrev cX4_finderOfShape : ByteArray := prog_1_method_31_code
def yX4_finderOfShape : MethodName := ⟨RX4, "finderOfShape", "(I)I"⟩
abbrev cX4_writeTitle : ByteArray := prog_1_method_32_code
def yX4_writeTitle : MethodName := ⟨RX4, "writeTitle", "(I)V"⟩
abbrev cX4_signOf : ByteArray := prog_1_method_33_code
def yX4_signOf : MethodName := ⟨RX4, "signOf", "(I)C"⟩
abbrev cX4_isCell : ByteArray := prog_1_method_34_code
def yX4_isCell : MethodName := ⟨RX4, "isCell", "(I)Z"⟩
abbrev cX4_columnOf : ByteArray := prog_1_method_35_code
def yX4_columnOf : MethodName := ⟨RX4, "columnOf", "(I)I"⟩
abbrev cX4_depthAt : ByteArray := prog_1_method_36_code
def yX4_depthAt : MethodName := ⟨RX4, "depthAt", "(I)I"⟩
abbrev cX4_requireCell : ByteArray := prog_1_method_37_code
def yX4_requireCell : MethodName := ⟨RX4, "requireCell", "(I)V"⟩
abbrev cX4_requireDiver : ByteArray := prog_1_method_38_code
def yX4_requireDiver : MethodName := ⟨RX4, "requireDiver", "(I)V"⟩
abbrev cX4_requireFinder : ByteArray := prog_1_method_39_code
def yX4_requireFinder : MethodName := ⟨RX4, "requireFinder", "(I)V"⟩
abbrev cX4_requireClaim : ByteArray := prog_1_method_40_code
def yX4_requireClaim : MethodName := ⟨RX4, "requireClaim", "(I)V"⟩
abbrev cX4_requireThing : ByteArray := prog_1_method_41_code
def yX4_requireThing : MethodName := ⟨RX4, "requireThing", "(I)V"⟩
abbrev cX4_requireHeight : ByteArray := prog_1_method_42_code
def yX4_requireHeight : MethodName := ⟨RX4, "requireHeight", "(I)V"⟩
abbrev cX4_requireWithin : ByteArray := prog_1_method_43_code
def yX4_requireWithin : MethodName := ⟨RX4, "requireWithin", "(III)V"⟩
abbrev cX4_requireFree : ByteArray := prog_1_method_44_code
def yX4_requireFree : MethodName := ⟨RX4, "requireFree", "(I)V"⟩
abbrev cX4_requireDive : ByteArray := prog_1_method_45_code
def yX4_requireDive : MethodName := ⟨RX4, "requireDive", "(III)V"⟩
abbrev cX4_requireOpenShape : ByteArray := prog_1_method_46_code
def yX4_requireOpenShape : MethodName := ⟨RX4, "requireOpenShape", "(I)V"⟩
def RX5 : String := "EchoRegistryModel"
def TX5 : u_T := fun k => match k with
  | _ => ("", "", "", false)
def tyX5 : Nat → FieldType := fun k => match k with
  | _ => .int
theorem nmX5 : ∀ a, a < 0 → ∀ b, b < 0 → a ≠ b → (TX5 a).2.1 ≠ (TX5 b).2.1 := by decide +kernel
theorem tyX5_ok : ∀ k, k < 0 → parseFieldDescriptor (TX5 k).2.2.1 = some (tyX5 k) := by decide +kernel
def RJx145de : String := "java/io/Serializable"
def TJx145de : u_T := fun k => match k with
  | _ => ("", "", "", false)
def tyJx145de : Nat → FieldType := fun k => match k with
  | _ => .int
theorem nmJx145de : ∀ a, a < 0 → ∀ b, b < 0 → a ≠ b → (TJx145de a).2.1 ≠ (TJx145de b).2.1 := by decide +kernel
theorem tyJx145de_ok : ∀ k, k < 0 → parseFieldDescriptor (TJx145de k).2.2.1 = some (tyJx145de k) := by decide +kernel
def RJ5 : String := "java/lang/AbstractStringBuilder"
def TJ5 : u_T := fun k => match k with
  | _ => ("", "", "", false)
def tyJ5 : Nat → FieldType := fun k => match k with
  | _ => .int
theorem nmJ5 : ∀ a, a < 0 → ∀ b, b < 0 → a ≠ b → (TJ5 a).2.1 ≠ (TJ5 b).2.1 := by decide +kernel
theorem tyJ5_ok : ∀ k, k < 0 → parseFieldDescriptor (TJ5 k).2.2.1 = some (tyJ5 k) := by decide +kernel
abbrev cJ5_init_d00df : ByteArray := prog_8_method_2_code
def yJ5_init_d00df : MethodName := ⟨RJ5, "<init>", "(I)V"⟩
abbrev cJ5_length_8abf5 : ByteArray := prog_8_method_6_code
def yJ5_length_8abf5 : MethodName := ⟨RJ5, "length", "()I"⟩
abbrev cJ5_ensureCapacityInternal_d00df : ByteArray := prog_8_method_9_code
def yJ5_ensureCapacityInternal_d00df : MethodName := ⟨RJ5, "ensureCapacityInternal", "(I)V"⟩
abbrev cJ5_newCapacity_0f7a4 : ByteArray := prog_8_method_10_code
def yJ5_newCapacity_0f7a4 : MethodName := ⟨RJ5, "newCapacity", "(I)I"⟩
abbrev cJ5_inflate_da8c8 : ByteArray := prog_8_method_11_code
def yJ5_inflate_da8c8 : MethodName := ⟨RJ5, "inflate", "()V"⟩
abbrev cJ5_setLength_d00df : ByteArray := prog_8_method_13_code
def yJ5_setLength_d00df : MethodName := ⟨RJ5, "setLength", "(I)V"⟩
abbrev cJ5_charAt_5068e : ByteArray := prog_8_method_14_code
def yJ5_charAt_5068e : MethodName := ⟨RJ5, "charAt", "(I)C"⟩
abbrev cJ5_append_3fe6f : ByteArray := prog_8_method_31_code
def yJ5_append_3fe6f : MethodName := ⟨RJ5, "append", "(C)Ljava/lang/AbstractStringBuilder;"⟩
abbrev cJ5_append_c97b9 : ByteArray := prog_8_method_32_code
def yJ5_append_c97b9 : MethodName := ⟨RJ5, "append", "(I)Ljava/lang/AbstractStringBuilder;"⟩
abbrev cJ5_isLatin1_aae02 : ByteArray := prog_8_method_68_code
def yJ5_isLatin1_aae02 : MethodName := ⟨RJ5, "isLatin1", "()Z"⟩
def RJx2cfe8 : String := "java/lang/Appendable"
def TJx2cfe8 : u_T := fun k => match k with
  | _ => ("", "", "", false)
def tyJx2cfe8 : Nat → FieldType := fun k => match k with
  | _ => .int
theorem nmJx2cfe8 : ∀ a, a < 0 → ∀ b, b < 0 → a ≠ b → (TJx2cfe8 a).2.1 ≠ (TJx2cfe8 b).2.1 := by decide +kernel
theorem tyJx2cfe8_ok : ∀ k, k < 0 → parseFieldDescriptor (TJx2cfe8 k).2.2.1 = some (tyJx2cfe8 k) := by decide +kernel
def RJx9f9b0 : String := "java/lang/CharSequence"
def TJx9f9b0 : u_T := fun k => match k with
  | _ => ("", "", "", false)
def tyJx9f9b0 : Nat → FieldType := fun k => match k with
  | _ => .int
theorem nmJx9f9b0 : ∀ a, a < 0 → ∀ b, b < 0 → a ≠ b → (TJx9f9b0 a).2.1 ≠ (TJx9f9b0 b).2.1 := by decide +kernel
theorem tyJx9f9b0_ok : ∀ k, k < 0 → parseFieldDescriptor (TJx9f9b0 k).2.2.1 = some (tyJx9f9b0 k) := by decide +kernel
def RJx8e188 : String := "java/lang/Cloneable"
def TJx8e188 : u_T := fun k => match k with
  | _ => ("", "", "", false)
def tyJx8e188 : Nat → FieldType := fun k => match k with
  | _ => .int
theorem nmJx8e188 : ∀ a, a < 0 → ∀ b, b < 0 → a ≠ b → (TJx8e188 a).2.1 ≠ (TJx8e188 b).2.1 := by decide +kernel
theorem tyJx8e188_ok : ∀ k, k < 0 → parseFieldDescriptor (TJx8e188 k).2.2.1 = some (tyJx8e188 k) := by decide +kernel
def RJxb160c : String := "java/lang/Comparable"
def TJxb160c : u_T := fun k => match k with
  | _ => ("", "", "", false)
def tyJxb160c : Nat → FieldType := fun k => match k with
  | _ => .int
theorem nmJxb160c : ∀ a, a < 0 → ∀ b, b < 0 → a ≠ b → (TJxb160c a).2.1 ≠ (TJxb160c b).2.1 := by decide +kernel
theorem tyJxb160c_ok : ∀ k, k < 0 → parseFieldDescriptor (TJxb160c k).2.2.1 = some (tyJxb160c k) := by decide +kernel
def RJ6 : String := "java/lang/Integer"
def TJ6 : u_T := fun k => match k with
  | _ => ("", "", "", false)
def tyJ6 : Nat → FieldType := fun k => match k with
  | _ => .int
theorem nmJ6 : ∀ a, a < 0 → ∀ b, b < 0 → a ≠ b → (TJ6 a).2.1 ≠ (TJ6 b).2.1 := by decide +kernel
theorem tyJ6_ok : ∀ k, k < 0 → parseFieldDescriptor (TJ6 k).2.2.1 = some (tyJ6 k) := by decide +kernel
abbrev cJ6_getChars_ba4f3 : ByteArray := prog_14_method_12_code
def yJ6_getChars_ba4f3 : MethodName := ⟨RJ6, "getChars", "(II[B)I"⟩
abbrev cJ6_stringSize_0f7a4 : ByteArray := prog_14_method_13_code
def yJ6_stringSize_0f7a4 : MethodName := ⟨RJ6, "stringSize", "(I)I"⟩
def RJ9 : String := "java/lang/Math"
def TJ9 : u_T := fun k => match k with
  | _ => ("", "", "", false)
def tyJ9 : Nat → FieldType := fun k => match k with
  | _ => .int
theorem nmJ9 : ∀ a, a < 0 → ∀ b, b < 0 → a ≠ b → (TJ9 a).2.1 ≠ (TJ9 b).2.1 := by decide +kernel
theorem tyJ9_ok : ∀ k, k < 0 → parseFieldDescriptor (TJ9 k).2.2.1 = some (tyJ9 k) := by decide +kernel
abbrev cJ9_max_7cf53 : ByteArray := prog_15_method_65_code
def yJ9_max_7cf53 : MethodName := ⟨RJ9, "max", "(II)I"⟩
abbrev cJ9_min_7cf53 : ByteArray := prog_15_method_69_code
def yJ9_min_7cf53 : MethodName := ⟨RJ9, "min", "(II)I"⟩
def RJxd2413 : String := "java/lang/Number"
def TJxd2413 : u_T := fun k => match k with
  | _ => ("", "", "", false)
def tyJxd2413 : Nat → FieldType := fun k => match k with
  | _ => .int
theorem nmJxd2413 : ∀ a, a < 0 → ∀ b, b < 0 → a ≠ b → (TJxd2413 a).2.1 ≠ (TJxd2413 b).2.1 := by decide +kernel
theorem tyJxd2413_ok : ∀ k, k < 0 → parseFieldDescriptor (TJxd2413 k).2.2.1 = some (tyJxd2413 k) := by decide +kernel
def RJ0 : String := "java/lang/String"
def TJ0 : u_T := fun k => match k with
  | _ => ("", "", "", false)
def tyJ0 : Nat → FieldType := fun k => match k with
  | _ => .int
theorem nmJ0 : ∀ a, a < 0 → ∀ b, b < 0 → a ≠ b → (TJ0 a).2.1 ≠ (TJ0 b).2.1 := by decide +kernel
theorem tyJ0_ok : ∀ k, k < 0 → parseFieldDescriptor (TJ0 k).2.2.1 = some (tyJ0 k) := by decide +kernel
abbrev cJ0_checkIndex_df160 : ByteArray := prog_18_method_155_code
def yJ0_checkIndex_df160 : MethodName := ⟨RJ0, "checkIndex", "(II)V"⟩
abbrev cJ0_checkBoundsOffCount_cabcc : ByteArray := prog_18_method_157_code
def yJ0_checkBoundsOffCount_cabcc : MethodName := ⟨RJ0, "checkBoundsOffCount", "(III)I"⟩
abbrev cJ0_checkBoundsBeginEnd_23922 : ByteArray := prog_18_method_158_code
def yJ0_checkBoundsBeginEnd_23922 : MethodName := ⟨RJ0, "checkBoundsBeginEnd", "(III)V"⟩
def RJ4 : String := "java/lang/StringBuilder"
def TJ4 : u_T := fun k => match k with
  | 0 => ("java/lang/AbstractStringBuilder", "value", "[B", false)
  | 1 => ("java/lang/AbstractStringBuilder", "coder", "B", false)
  | 2 => ("java/lang/AbstractStringBuilder", "maybeLatin1", "Z", false)
  | _ => ("java/lang/AbstractStringBuilder", "count", "I", false)
def tyJ4 : Nat → FieldType := fun k => match k with
  | 0 => .array .byte
  | 1 => .byte
  | 2 => .boolean
  | _ => .int
theorem nmJ4 : ∀ a, a < 4 → ∀ b, b < 4 → a ≠ b → (TJ4 a).2.1 ≠ (TJ4 b).2.1 := by decide +kernel
theorem tyJ4_ok : ∀ k, k < 4 → parseFieldDescriptor (TJ4 k).2.2.1 = some (tyJ4 k) := by decide +kernel
abbrev cJ4_init_da8c8 : ByteArray := prog_19_method_1_code
def yJ4_init_da8c8 : MethodName := ⟨RJ4, "<init>", "()V"⟩
abbrev cJ4_append_cf468 : ByteArray := prog_19_method_14_code
def yJ4_append_cf468 : MethodName := ⟨RJ4, "append", "(C)Ljava/lang/StringBuilder;"⟩
abbrev cJ4_append_bf812 : ByteArray := prog_19_method_15_code
def yJ4_append_bf812 : MethodName := ⟨RJ4, "append", "(I)Ljava/lang/StringBuilder;"⟩
abbrev cJ4_charAt_5068e : ByteArray := prog_19_method_88_code
def yJ4_charAt_5068e : MethodName := ⟨RJ4, "charAt", "(I)C"⟩
abbrev cJ4_setLength_d00df : ByteArray := prog_19_method_89_code
def yJ4_setLength_d00df : MethodName := ⟨RJ4, "setLength", "(I)V"⟩
abbrev cJ4_length_8abf5 : ByteArray := prog_19_method_93_code
def yJ4_length_8abf5 : MethodName := ⟨RJ4, "length", "()I"⟩
def RJ1 : String := "java/lang/StringLatin1"
def TJ1 : u_T := fun k => match k with
  | _ => ("", "", "", false)
def tyJ1 : Nat → FieldType := fun k => match k with
  | _ => .int
theorem nmJ1 : ∀ a, a < 0 → ∀ b, b < 0 → a ≠ b → (TJ1 a).2.1 ≠ (TJ1 b).2.1 := by decide +kernel
theorem tyJ1_ok : ∀ k, k < 0 → parseFieldDescriptor (TJ1 k).2.2.1 = some (tyJ1 k) := by decide +kernel
abbrev cJ1_canEncode_fc78d : ByteArray := prog_20_method_3_code
def yJ1_canEncode_fc78d : MethodName := ⟨RJ1, "canEncode", "(C)Z"⟩
abbrev cJ1_fillNull_b72d1 : ByteArray := prog_20_method_48_code
def yJ1_fillNull_b72d1 : MethodName := ⟨RJ1, "fillNull", "([BII)V"⟩
abbrev cJ1_inflate_0e8fd : ByteArray := prog_20_method_50_code
def yJ1_inflate_0e8fd : MethodName := ⟨RJ1, "inflate", "([BI[BII)V"⟩
def RJ2 : String := "java/lang/StringUTF16"
def TJ2 : u_T := fun k => match k with
  | _ => ("", "", "", false)
def tyJ2 : Nat → FieldType := fun k => match k with
  | _ => .int
theorem nmJ2 : ∀ a, a < 0 → ∀ b, b < 0 → a ≠ b → (TJ2 a).2.1 ≠ (TJ2 b).2.1 := by decide +kernel
theorem tyJ2_ok : ∀ k, k < 0 → parseFieldDescriptor (TJ2 k).2.2.1 = some (tyJ2 k) := by decide +kernel
abbrev cJ2_newBytesFor_77867 : ByteArray := prog_21_method_2_code
def yJ2_newBytesFor_77867 : MethodName := ⟨RJ2, "newBytesFor", "(I)[B"⟩
abbrev cJ2_newBytesLength_0f7a4 : ByteArray := prog_21_method_3_code
def yJ2_newBytesLength_0f7a4 : MethodName := ⟨RJ2, "newBytesLength", "(I)I"⟩
abbrev cJ2_putChar_b72d1 : ByteArray := prog_21_method_4_code
def yJ2_putChar_b72d1 : MethodName := ⟨RJ2, "putChar", "([BII)V"⟩
abbrev cJ2_getChar_3b067 : ByteArray := prog_21_method_5_code
def yJ2_getChar_3b067 : MethodName := ⟨RJ2, "getChar", "([BI)C"⟩
abbrev cJ2_length_9d52b : ByteArray := prog_21_method_6_code
def yJ2_length_9d52b : MethodName := ⟨RJ2, "length", "([B)I"⟩
abbrev cJ2_fillNull_b72d1 : ByteArray := prog_21_method_70_code
def yJ2_fillNull_b72d1 : MethodName := ⟨RJ2, "fillNull", "([BII)V"⟩
abbrev cJ2_putCharSB_b72d1 : ByteArray := prog_21_method_71_code
def yJ2_putCharSB_b72d1 : MethodName := ⟨RJ2, "putCharSB", "([BII)V"⟩
abbrev cJ2_getChars_46870 : ByteArray := prog_21_method_77_code
def yJ2_getChars_46870 : MethodName := ⟨RJ2, "getChars", "(III[B)I"⟩
abbrev cJ2_inflate_0e8fd : ByteArray := prog_21_method_86_code
def yJ2_inflate_0e8fd : MethodName := ⟨RJ2, "inflate", "([BI[BII)V"⟩
abbrev cJ2_getChars_ba4f3 : ByteArray := prog_21_method_89_code
def yJ2_getChars_ba4f3 : MethodName := ⟨RJ2, "getChars", "(II[B)I"⟩
abbrev cJ2_checkIndex_2214a : ByteArray := prog_21_method_91_code
def yJ2_checkIndex_2214a : MethodName := ⟨RJ2, "checkIndex", "(I[B)V"⟩
abbrev cJ2_checkBoundsBeginEnd_d044e : ByteArray := prog_21_method_93_code
def yJ2_checkBoundsBeginEnd_d044e : MethodName := ⟨RJ2, "checkBoundsBeginEnd", "(II[B)V"⟩
abbrev cJ2_checkBoundsOffCount_d044e : ByteArray := prog_21_method_94_code
def yJ2_checkBoundsOffCount_d044e : MethodName := ⟨RJ2, "checkBoundsOffCount", "(II[B)V"⟩
def RJ10 : String := "java/lang/System"
def TJ10 : u_T := fun k => match k with
  | _ => ("", "", "", false)
def tyJ10 : Nat → FieldType := fun k => match k with
  | _ => .int
theorem nmJ10 : ∀ a, a < 0 → ∀ b, b < 0 → a ≠ b → (TJ10 a).2.1 ≠ (TJ10 b).2.1 := by decide +kernel
theorem tyJ10_ok : ∀ k, k < 0 → parseFieldDescriptor (TJ10 k).2.2.1 = some (tyJ10 k) := by decide +kernel
def RJxfd54e : String := "java/lang/constant/Constable"
def TJxfd54e : u_T := fun k => match k with
  | _ => ("", "", "", false)
def tyJxfd54e : Nat → FieldType := fun k => match k with
  | _ => .int
theorem nmJxfd54e : ∀ a, a < 0 → ∀ b, b < 0 → a ≠ b → (TJxfd54e a).2.1 ≠ (TJxfd54e b).2.1 := by decide +kernel
theorem tyJxfd54e_ok : ∀ k, k < 0 → parseFieldDescriptor (TJxfd54e k).2.2.1 = some (tyJxfd54e k) := by decide +kernel
def RJx3cf43 : String := "java/lang/constant/ConstantDesc"
def TJx3cf43 : u_T := fun k => match k with
  | _ => ("", "", "", false)
def tyJx3cf43 : Nat → FieldType := fun k => match k with
  | _ => .int
theorem nmJx3cf43 : ∀ a, a < 0 → ∀ b, b < 0 → a ≠ b → (TJx3cf43 a).2.1 ≠ (TJx3cf43 b).2.1 := by decide +kernel
theorem tyJx3cf43_ok : ∀ k, k < 0 → parseFieldDescriptor (TJx3cf43 k).2.2.1 = some (tyJx3cf43 k) := by decide +kernel
def RJ7 : String := "java/util/Arrays"
def TJ7 : u_T := fun k => match k with
  | _ => ("", "", "", false)
def tyJ7 : Nat → FieldType := fun k => match k with
  | _ => .int
theorem nmJ7 : ∀ a, a < 0 → ∀ b, b < 0 → a ≠ b → (TJ7 a).2.1 ≠ (TJ7 b).2.1 := by decide +kernel
theorem tyJ7_ok : ∀ k, k < 0 → parseFieldDescriptor (TJ7 k).2.2.1 = some (tyJ7 k) := by decide +kernel
abbrev cJ7_rangeCheck_23922 : ByteArray := prog_24_method_30_code
def yJ7_rangeCheck_23922 : MethodName := ⟨RJ7, "rangeCheck", "(III)V"⟩
abbrev cJ7_fill_53178 : ByteArray := prog_24_method_103_code
def yJ7_fill_53178 : MethodName := ⟨RJ7, "fill", "([II)V"⟩
abbrev cJ7_fill_eb02e : ByteArray := prog_24_method_110_code
def yJ7_fill_eb02e : MethodName := ⟨RJ7, "fill", "([BIIB)V"⟩
abbrev cJ7_copyOf_9075b : ByteArray := prog_24_method_121_code
def yJ7_copyOf_9075b : MethodName := ⟨RJ7, "copyOf", "([BI)[B"⟩
def RJ8 : String := "jdk/internal/util/ArraysSupport"
def TJ8 : u_T := fun k => match k with
  | _ => ("", "", "", false)
def tyJ8 : Nat → FieldType := fun k => match k with
  | _ => .int
theorem nmJ8 : ∀ a, a < 0 → ∀ b, b < 0 → a ≠ b → (TJ8 a).2.1 ≠ (TJ8 b).2.1 := by decide +kernel
theorem tyJ8_ok : ∀ k, k < 0 → parseFieldDescriptor (TJ8 k).2.2.1 = some (tyJ8 k) := by decide +kernel
abbrev cJ8_newLength_cabcc : ByteArray := prog_25_method_27_code
def yJ8_newLength_cabcc : MethodName := ⟨RJ8, "newLength", "(III)I"⟩
abbrev cJ8_hugeLength_7cf53 : ByteArray := prog_25_method_28_code
def yJ8_hugeLength_7cf53 : MethodName := ⟨RJ8, "hugeLength", "(II)I"⟩
def RJ3 : String := "jdk/internal/util/Preconditions"
def TJ3 : u_T := fun k => match k with
  | _ => ("", "", "", false)
def tyJ3 : Nat → FieldType := fun k => match k with
  | _ => .int
theorem nmJ3 : ∀ a, a < 0 → ∀ b, b < 0 → a ≠ b → (TJ3 a).2.1 ≠ (TJ3 b).2.1 := by decide +kernel
theorem tyJ3_ok : ∀ k, k < 0 → parseFieldDescriptor (TJ3 k).2.2.1 = some (tyJ3 k) := by decide +kernel
abbrev cJ3_checkIndex_8e157 : ByteArray := prog_26_method_11_code
def yJ3_checkIndex_8e157 : MethodName := ⟨RJ3, "checkIndex", "(IILjava/util/function/BiFunction;)I"⟩
abbrev cJ3_checkFromToIndex_8c36e : ByteArray := prog_26_method_12_code
def yJ3_checkFromToIndex_8c36e : MethodName := ⟨RJ3, "checkFromToIndex", "(IIILjava/util/function/BiFunction;)I"⟩
abbrev cJ3_checkFromIndexSize_8c36e : ByteArray := prog_26_method_13_code
def yJ3_checkFromIndexSize_8c36e : MethodName := ⟨RJ3, "checkFromIndexSize", "(IIILjava/util/function/BiFunction;)I"⟩
def RL : String := "EchoRegistryLaw"
abbrev cL_low : ByteArray := method_2_code
def yL_low : MethodName := ⟨RL, "low", "(II)I"⟩
abbrev cL_cell : ByteArray := method_3_code
def yL_cell : MethodName := ⟨RL, "cell", "([II)I"⟩
abbrev cL_name : ByteArray := method_4_code
def yL_name : MethodName := ⟨RL, "name", "(LEchoRegistry;IIII)I"⟩
abbrev cL_raise : ByteArray := method_5_code
def yL_raise : MethodName := ⟨RL, "raise", "(LEchoRegistry;IIII)I"⟩
abbrev cL_fill : ByteArray := method_6_code
def yL_fill : MethodName := ⟨RL, "fill", "(LEchoRegistry;I)I"⟩
abbrev cL_claim : ByteArray := method_7_code
def yL_claim : MethodName := ⟨RL, "claim", "(LEchoRegistry;II)I"⟩
abbrev cL_renew : ByteArray := method_8_code
def yL_renew : MethodName := ⟨RL, "renew", "(LEchoRegistry;I)I"⟩
abbrev cL_cells : ByteArray := method_9_code
def yL_cells : MethodName := ⟨RL, "cells", "(LEchoRegistry;I)Z"⟩
abbrev cL_claims : ByteArray := method_10_code
def yL_claims : MethodName := ⟨RL, "claims", "(LEchoRegistry;)Z"⟩
abbrev cL_sum : ByteArray := method_11_code
def yL_sum : MethodName := ⟨RL, "sum", "(LEchoRegistry;)I"⟩
abbrev cL_law : ByteArray := code
def yL_law : MethodName := ⟨RL, "law", "([I)Z"⟩
