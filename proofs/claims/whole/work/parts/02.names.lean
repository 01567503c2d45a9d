def RX0 : String := "IndexDesk$Aid"
def TX0 : u_T := fun k => match k with
  | _ => ("", "", "", false)
def tyX0 : Nat → FieldType := fun k => match k with
  | _ => .int
theorem nmX0 : ∀ a, a < 0 → ∀ b, b < 0 → a ≠ b → (TX0 a).2.1 ≠ (TX0 b).2.1 := by decide +kernel
theorem tyX0_ok : ∀ k, k < 0 → parseFieldDescriptor (TX0 k).2.2.1 = some (tyX0 k) := by decide +kernel
abbrev cX0_init : ByteArray := prog_2_method_1_code
def yX0_init : MethodName := ⟨RX0, "<init>", "(ILIndexDesk$Table;)V"⟩
def RX1 : String := "IndexDesk$Cluster"
def TX1 : u_T := fun k => match k with
  | 0 => ("IndexDesk$Ordered", "own", "I", true)
  | 1 => ("IndexDesk$Ordered", "by", "[I", true)
  | 2 => ("IndexDesk$Aid", "kind", "I", true)
  | 3 => ("IndexDesk$Aid", "table", "LIndexDesk$Table;", true)
  | _ => ("IndexDesk$Aid", "isBuilt", "Z", false)
def tyX1 : Nat → FieldType := fun k => match k with
  | 0 => .int
  | 1 => .array .int
  | 2 => .int
  | 3 => .object "IndexDesk$Table"
  | _ => .boolean
theorem nmX1 : ∀ a, a < 5 → ∀ b, b < 5 → a ≠ b → (TX1 a).2.1 ≠ (TX1 b).2.1 := by decide +kernel
theorem tyX1_ok : ∀ k, k < 5 → parseFieldDescriptor (TX1 k).2.2.1 = some (tyX1 k) := by decide +kernel
abbrev cX1_init : ByteArray := prog_3_method_1_code
def yX1_init : MethodName := ⟨RX1, "<init>", "(LIndexDesk$Table;III)V"⟩
abbrev cX1_mustFetch : ByteArray := prog_3_method_2_code
def yX1_mustFetch : MethodName := ⟨RX1, "mustFetch", "(LIndexDesk$Question;)Z"⟩
abbrev cX1_entriesOnPage : ByteArray := prog_3_method_3_code
def yX1_entriesOnPage : MethodName := ⟨RX1, "entriesOnPage", "()I"⟩
abbrev cX1_space : ByteArray := prog_3_method_4_code
def yX1_space : MethodName := ⟨RX1, "space", "()I"⟩
abbrev cX1_keeping : ByteArray := prog_3_method_5_code
def yX1_keeping : MethodName := ⟨RX1, "keeping", "()I"⟩
def RX2 : String := "IndexDesk$Covering"
def TX2 : u_T := fun k => match k with
  | 0 => ("IndexDesk$Ordered", "own", "I", true)
  | 1 => ("IndexDesk$Ordered", "by", "[I", true)
  | 2 => ("IndexDesk$Aid", "kind", "I", true)
  | 3 => ("IndexDesk$Aid", "table", "LIndexDesk$Table;", true)
  | 4 => ("IndexDesk$Aid", "isBuilt", "Z", false)
  | _ => ("IndexDesk$Covering", "held", "I", true)
def tyX2 : Nat → FieldType := fun k => match k with
  | 0 => .int
  | 1 => .array .int
  | 2 => .int
  | 3 => .object "IndexDesk$Table"
  | 4 => .boolean
  | _ => .int
theorem nmX2 : ∀ a, a < 6 → ∀ b, b < 6 → a ≠ b → (TX2 a).2.1 ≠ (TX2 b).2.1 := by decide +kernel
theorem tyX2_ok : ∀ k, k < 6 → parseFieldDescriptor (TX2 k).2.2.1 = some (tyX2 k) := by decide +kernel
abbrev cX2_init : ByteArray := prog_4_method_1_code
def yX2_init : MethodName := ⟨RX2, "<init>", "(LIndexDesk$Table;IIII)V"⟩
abbrev cX2_mustFetch : ByteArray := prog_4_method_2_code
def yX2_mustFetch : MethodName := ⟨RX2, "mustFetch", "(LIndexDesk$Question;)Z"⟩
abbrev cX2_space : ByteArray := prog_4_method_3_code
def yX2_space : MethodName := ⟨RX2, "space", "()I"⟩
abbrev cX2_keeping : ByteArray := prog_4_method_4_code
def yX2_keeping : MethodName := ⟨RX2, "keeping", "()I"⟩
def RX3 : String := "IndexDesk$Order"
def TX3 : u_T := fun k => match k with
  | 0 => ("IndexDesk$Ordered", "own", "I", true)
  | 1 => ("IndexDesk$Ordered", "by", "[I", true)
  | 2 => ("IndexDesk$Aid", "kind", "I", true)
  | 3 => ("IndexDesk$Aid", "table", "LIndexDesk$Table;", true)
  | _ => ("IndexDesk$Aid", "isBuilt", "Z", false)
def tyX3 : Nat → FieldType := fun k => match k with
  | 0 => .int
  | 1 => .array .int
  | 2 => .int
  | 3 => .object "IndexDesk$Table"
  | _ => .boolean
theorem nmX3 : ∀ a, a < 5 → ∀ b, b < 5 → a ≠ b → (TX3 a).2.1 ≠ (TX3 b).2.1 := by decide +kernel
theorem tyX3_ok : ∀ k, k < 5 → parseFieldDescriptor (TX3 k).2.2.1 = some (tyX3 k) := by decide +kernel
abbrev cX3_init : ByteArray := prog_5_method_1_code
def yX3_init : MethodName := ⟨RX3, "<init>", "(LIndexDesk$Table;III)V"⟩
abbrev cX3_keeping : ByteArray := prog_5_method_2_code
def yX3_keeping : MethodName := ⟨RX3, "keeping", "()I"⟩
def RX4 : String := "IndexDesk$Ordered"
def TX4 : u_T := fun k => match k with
  | _ => ("", "", "", false)
def tyX4 : Nat → FieldType := fun k => match k with
  | _ => .int
theorem nmX4 : ∀ a, a < 0 → ∀ b, b < 0 → a ≠ b → (TX4 a).2.1 ≠ (TX4 b).2.1 := by decide +kernel
theorem tyX4_ok : ∀ k, k < 0 → parseFieldDescriptor (TX4 k).2.2.1 = some (tyX4 k) := by decide +kernel
abbrev cX4_init : ByteArray := prog_6_method_1_code
def yX4_init : MethodName := ⟨RX4, "<init>", "(ILIndexDesk$Table;III)V"⟩
abbrev cX4_usedBy : ByteArray := prog_6_method_2_code
def yX4_usedBy : MethodName := ⟨RX4, "usedBy", "(LIndexDesk$Question;)I"⟩
abbrev cX4_helps : ByteArray := prog_6_method_3_code
def yX4_helps : MethodName := ⟨RX4, "helps", "(LIndexDesk$Question;)Z"⟩
abbrev cX4_foretoldRows : ByteArray := prog_6_method_4_code
def yX4_foretoldRows : MethodName := ⟨RX4, "foretoldRows", "()I"⟩
abbrev cX4_holds : ByteArray := prog_6_method_5_code
def yX4_holds : MethodName := ⟨RX4, "holds", "(I)Z"⟩
abbrev cX4_mustFetch : ByteArray := prog_6_method_6_code
def yX4_mustFetch : MethodName := ⟨RX4, "mustFetch", "(LIndexDesk$Question;)Z"⟩
abbrev cX4_entriesOnPage : ByteArray := prog_6_method_7_code
def yX4_entriesOnPage : MethodName := ⟨RX4, "entriesOnPage", "()I"⟩
abbrev cX4_foretold : ByteArray := prog_6_method_8_code
def yX4_foretold : MethodName := ⟨RX4, "foretold", "(LIndexDesk$Question;)I"⟩
abbrev cX4_fetched : ByteArray := prog_6_method_9_code
def yX4_fetched : MethodName := ⟨RX4, "fetched", "(LIndexDesk$Question;)I"⟩
abbrev cX4_finds : ByteArray := prog_6_method_10_code
def yX4_finds : MethodName := ⟨RX4, "finds", "(LIndexDesk$Question;II)Z"⟩
abbrev cX4_space : ByteArray := prog_6_method_11_code
def yX4_space : MethodName := ⟨RX4, "space", "()I"⟩
def RX5 : String := "IndexDesk$Part"
def TX5 : u_T := fun k => match k with
  | 0 => ("IndexDesk$Ordered", "own", "I", true)
  | 1 => ("IndexDesk$Ordered", "by", "[I", true)
  | 2 => ("IndexDesk$Aid", "kind", "I", true)
  | 3 => ("IndexDesk$Aid", "table", "LIndexDesk$Table;", true)
  | 4 => ("IndexDesk$Aid", "isBuilt", "Z", false)
  | 5 => ("IndexDesk$Part", "column", "I", true)
  | 6 => ("IndexDesk$Part", "from", "I", true)
  | _ => ("IndexDesk$Part", "to", "I", true)
def tyX5 : Nat → FieldType := fun k => match k with
  | 0 => .int
  | 1 => .array .int
  | 2 => .int
  | 3 => .object "IndexDesk$Table"
  | 4 => .boolean
  | 5 => .int
  | 6 => .int
  | _ => .int
theorem nmX5 : ∀ a, a < 8 → ∀ b, b < 8 → a ≠ b → (TX5 a).2.1 ≠ (TX5 b).2.1 := by decide +kernel
theorem tyX5_ok : ∀ k, k < 8 → parseFieldDescriptor (TX5 k).2.2.1 = some (tyX5 k) := by decide +kernel
abbrev cX5_init : ByteArray := prog_7_method_1_code
def yX5_init : MethodName := ⟨RX5, "<init>", "(LIndexDesk$Table;IIIII)V"⟩
abbrev cX5_helps : ByteArray := prog_7_method_2_code
def yX5_helps : MethodName := ⟨RX5, "helps", "(LIndexDesk$Question;)Z"⟩
abbrev cX5_foretoldRows : ByteArray := prog_7_method_3_code
def yX5_foretoldRows : MethodName := ⟨RX5, "foretoldRows", "()I"⟩
abbrev cX5_holds : ByteArray := prog_7_method_4_code
def yX5_holds : MethodName := ⟨RX5, "holds", "(I)Z"⟩
abbrev cX5_keeping : ByteArray := prog_7_method_5_code
def yX5_keeping : MethodName := ⟨RX5, "keeping", "()I"⟩
def RX6 : String := "IndexDesk$Question"
def TX6 : u_T := fun k => match k with
  | 0 => ("IndexDesk$Question", "table", "LIndexDesk$Table;", true)
  | 1 => ("IndexDesk$Question", "wants", "I", true)
  | 2 => ("IndexDesk$Question", "adds", "I", true)
  | 3 => ("IndexDesk$Question", "weight", "I", true)
  | 4 => ("IndexDesk$Question", "tested", "I", false)
  | 5 => ("IndexDesk$Question", "first", "[I", true)
  | _ => ("IndexDesk$Question", "last", "[I", true)
def tyX6 : Nat → FieldType := fun k => match k with
  | 0 => .object "IndexDesk$Table"
  | 1 => .int
  | 2 => .int
  | 3 => .int
  | 4 => .int
  | 5 => .array .int
  | _ => .array .int
theorem nmX6 : ∀ a, a < 7 → ∀ b, b < 7 → a ≠ b → (TX6 a).2.1 ≠ (TX6 b).2.1 := by decide +kernel
theorem tyX6_ok : ∀ k, k < 7 → parseFieldDescriptor (TX6 k).2.2.1 = some (tyX6 k) := by decide +kernel
abbrev cX6_init : ByteArray := prog_8_method_1_code
def yX6_init : MethodName := ⟨RX6, "<init>", "(LIndexDesk$Table;III)V"⟩
abbrev cX6_limit : ByteArray := prog_8_method_2_code
def yX6_limit : MethodName := ⟨RX6, "limit", "(III)V"⟩
abbrev cX6_tests : ByteArray := prog_8_method_3_code
def yX6_tests : MethodName := ⟨RX6, "tests", "(I)Z"⟩
abbrev cX6_testsAlike : ByteArray := prog_8_method_4_code
def yX6_testsAlike : MethodName := ⟨RX6, "testsAlike", "(I)Z"⟩
abbrev cX6_testsWithin : ByteArray := prog_8_method_5_code
def yX6_testsWithin : MethodName := ⟨RX6, "testsWithin", "(III)Z"⟩
abbrev cX6_foretoldPassing : ByteArray := prog_8_method_6_code
def yX6_foretoldPassing : MethodName := ⟨RX6, "foretoldPassing", "(II)I"⟩
abbrev cX6_passesAt : ByteArray := prog_8_method_7_code
def yX6_passesAt : MethodName := ⟨RX6, "passesAt", "(II)Z"⟩
abbrev cX6_passes : ByteArray := prog_8_method_8_code
def yX6_passes : MethodName := ⟨RX6, "passes", "(I)Z"⟩
abbrev cX6_answering : ByteArray := prog_8_method_9_code
def yX6_answering : MethodName := ⟨RX6, "answering", "()I"⟩
abbrev cX6_addedUp : ByteArray := prog_8_method_10_code
def yX6_addedUp : MethodName := ⟨RX6, "addedUp", "()I"⟩
abbrev cX6_touched : ByteArray := prog_8_method_11_code
def yX6_touched : MethodName := ⟨RX6, "touched", "()I"⟩
def RX7 : String := "IndexDesk$Scales"
def TX7 : u_T := fun k => match k with
  | 0 => ("IndexDesk$Scales", "questionCount", "I", false)
  | 1 => ("IndexDesk$Scales", "aidCount", "I", false)
  | 2 => ("IndexDesk$Scales", "weights", "[I", true)
  | 3 => ("IndexDesk$Scales", "costs", "[[I", true)
  | 4 => ("IndexDesk$Scales", "spaces", "[I", true)
  | 5 => ("IndexDesk$Scales", "upkeep", "[I", true)
  | 6 => ("IndexDesk$Scales", "rivals", "[I", true)
  | 7 => ("IndexDesk$Scales", "least", "[[I", true)
  | 8 => ("IndexDesk$Scales", "best", "I", false)
  | _ => ("IndexDesk$Scales", "bestCost", "J", false)
def tyX7 : Nat → FieldType := fun k => match k with
  | 0 => .int
  | 1 => .int
  | 2 => .array .int
  | 3 => .array (.array .int)
  | 4 => .array .int
  | 5 => .array .int
  | 6 => .array .int
  | 7 => .array (.array .int)
  | 8 => .int
  | _ => .long
theorem nmX7 : ∀ a, a < 10 → ∀ b, b < 10 → a ≠ b → (TX7 a).2.1 ≠ (TX7 b).2.1 := by decide +kernel
theorem tyX7_ok : ∀ k, k < 10 → parseFieldDescriptor (TX7 k).2.2.1 = some (tyX7 k) := by decide +kernel
abbrev cX7_init : ByteArray := prog_9_method_1_code
def yX7_init : MethodName := ⟨RX7, "<init>", "()V"⟩
abbrev cX7_load : ByteArray := prog_9_method_2_code
def yX7_load : MethodName := ⟨RX7, "load", "(Ljava/util/ArrayList;Ljava/util/ArrayList;)V"⟩
abbrev cX7_weigh : ByteArray := prog_9_method_3_code
def yX7_weigh : MethodName := ⟨RX7, "weigh", "(I)J"⟩
abbrev cX7_weighNothing : ByteArray := prog_9_method_4_code
def yX7_weighNothing : MethodName := ⟨RX7, "weighNothing", "()J"⟩
abbrev cX7_savedBy : ByteArray := prog_9_method_5_code
def yX7_savedBy : MethodName := ⟨RX7, "savedBy", "(I[I)J"⟩
abbrev cX7_settle : ByteArray := prog_9_method_6_code
def yX7_settle : MethodName := ⟨RX7, "settle", "(IZ)V"⟩
abbrev cX7_fits : ByteArray := prog_9_method_7_code
def yX7_fits : MethodName := ⟨RX7, "fits", "(III)Z"⟩
abbrev cX7_cheapest : ByteArray := prog_9_method_8_code
def yX7_cheapest : MethodName := ⟨RX7, "cheapest", "(I)I"⟩
abbrev cX7_explore : ByteArray := prog_9_method_9_code
def yX7_explore : MethodName := ⟨RX7, "explore", "(IIJI)V"⟩
abbrev cX7_keepIfBetter : ByteArray := prog_9_method_10_code
def yX7_keepIfBetter : MethodName := ⟨RX7, "keepIfBetter", "(IJ)V"⟩
abbrev cX7_gathered : ByteArray := prog_9_method_11_code
def yX7_gathered : MethodName := ⟨RX7, "gathered", "(I)I"⟩
abbrev cX7_mostSaving : ByteArray := prog_9_method_12_code
def yX7_mostSaving : MethodName := ⟨RX7, "mostSaving", "(II)I"⟩
abbrev cX7_lower : ByteArray := prog_9_method_13_code
def yX7_lower : MethodName := ⟨RX7, "lower", "(I)V"⟩
def RX8 : String := "IndexDesk$Sums"
def TX8 : u_T := fun k => match k with
  | 0 => ("IndexDesk$Aid", "kind", "I", true)
  | 1 => ("IndexDesk$Aid", "table", "LIndexDesk$Table;", true)
  | 2 => ("IndexDesk$Aid", "isBuilt", "Z", false)
  | 3 => ("IndexDesk$Sums", "groupedBy", "I", true)
  | _ => ("IndexDesk$Sums", "column", "I", true)
def tyX8 : Nat → FieldType := fun k => match k with
  | 0 => .int
  | 1 => .object "IndexDesk$Table"
  | 2 => .boolean
  | 3 => .int
  | _ => .int
theorem nmX8 : ∀ a, a < 5 → ∀ b, b < 5 → a ≠ b → (TX8 a).2.1 ≠ (TX8 b).2.1 := by decide +kernel
theorem tyX8_ok : ∀ k, k < 5 → parseFieldDescriptor (TX8 k).2.2.1 = some (tyX8 k) := by decide +kernel
abbrev cX8_init : ByteArray := prog_10_method_1_code
def yX8_init : MethodName := ⟨RX8, "<init>", "(LIndexDesk$Table;II)V"⟩
abbrev cX8_helps : ByteArray := prog_10_method_2_code
def yX8_helps : MethodName := ⟨RX8, "helps", "(LIndexDesk$Question;)Z"⟩
abbrev cX8_foretold : ByteArray := prog_10_method_3_code
def yX8_foretold : MethodName := ⟨RX8, "foretold", "(LIndexDesk$Question;)I"⟩
abbrev cX8_fetched : ByteArray := prog_10_method_4_code
def yX8_fetched : MethodName := ⟨RX8, "fetched", "(LIndexDesk$Question;)I"⟩
abbrev cX8_space : ByteArray := prog_10_method_5_code
def yX8_space : MethodName := ⟨RX8, "space", "()I"⟩
abbrev cX8_keeping : ByteArray := prog_10_method_6_code
def yX8_keeping : MethodName := ⟨RX8, "keeping", "()I"⟩
def RX9 : String := "IndexDesk$Table"
def TX9 : u_T := fun k => match k with
  | 0 => ("IndexDesk$Table", "number", "I", true)
  | 1 => ("IndexDesk$Table", "columns", "I", true)
  | 2 => ("IndexDesk$Table", "page", "I", true)
  | 3 => ("IndexDesk$Table", "rows", "I", false)
  | 4 => ("IndexDesk$Table", "changing", "I", false)
  | 5 => ("IndexDesk$Table", "countedRows", "I", false)
  | 6 => ("IndexDesk$Table", "cells", "[I", true)
  | 7 => ("IndexDesk$Table", "unlike", "[I", true)
  | 8 => ("IndexDesk$Table", "least", "[I", true)
  | _ => ("IndexDesk$Table", "greatest", "[I", true)
def tyX9 : Nat → FieldType := fun k => match k with
  | 0 => .int
  | 1 => .int
  | 2 => .int
  | 3 => .int
  | 4 => .int
  | 5 => .int
  | 6 => .array .int
  | 7 => .array .int
  | 8 => .array .int
  | _ => .array .int
theorem nmX9 : ∀ a, a < 10 → ∀ b, b < 10 → a ≠ b → (TX9 a).2.1 ≠ (TX9 b).2.1 := by decide +kernel
theorem tyX9_ok : ∀ k, k < 10 → parseFieldDescriptor (TX9 k).2.2.1 = some (tyX9 k) := by decide +kernel
abbrev cX9_init : ByteArray := prog_11_method_1_code
def yX9_init : MethodName := ⟨RX9, "<init>", "(III)V"⟩
abbrev cX9_has : ByteArray := prog_11_method_2_code
def yX9_has : MethodName := ⟨RX9, "has", "(I)Z"⟩
abbrev cX9_hasOrNone : ByteArray := prog_11_method_3_code
def yX9_hasOrNone : MethodName := ⟨RX9, "hasOrNone", "(I)Z"⟩
abbrev cX9_hasAll : ByteArray := prog_11_method_4_code
def yX9_hasAll : MethodName := ⟨RX9, "hasAll", "(I)Z"⟩
abbrev cX9_allows : ByteArray := prog_11_method_5_code
def yX9_allows : MethodName := ⟨RX9, "allows", "(IIII)Z"⟩
abbrev cX9_allowsAt : ByteArray := prog_11_method_6_code
def yX9_allowsAt : MethodName := ⟨RX9, "allowsAt", "(II)Z"⟩
abbrev cX9_append : ByteArray := prog_11_method_7_code
def yX9_append : MethodName := ⟨RX9, "append", "(IIII)I"⟩
abbrev cX9_write : ByteArray := prog_11_method_8_code
def yX9_write : MethodName := ⟨RX9, "write", "(III)V"⟩
abbrev cX9_isCell : ByteArray := prog_11_method_9_code
def yX9_isCell : MethodName := ⟨RX9, "isCell", "(II)Z"⟩
abbrev cX9_value : ByteArray := prog_11_method_10_code
def yX9_value : MethodName := ⟨RX9, "value", "(II)I"⟩
abbrev cX9_remove : ByteArray := prog_11_method_11_code
def yX9_remove : MethodName := ⟨RX9, "remove", "(I)V"⟩
abbrev cX9_pages : ByteArray := prog_11_method_12_code
def yX9_pages : MethodName := ⟨RX9, "pages", "()I"⟩
abbrev cX9_countedPages : ByteArray := prog_11_method_13_code
def yX9_countedPages : MethodName := ⟨RX9, "countedPages", "()I"⟩
abbrev cX9_pageOf : ByteArray := prog_11_method_14_code
def yX9_pageOf : MethodName := ⟨RX9, "pageOf", "(I)I"⟩
abbrev cX9_takeCounts : ByteArray := prog_11_method_15_code
def yX9_takeCounts : MethodName := ⟨RX9, "takeCounts", "()V"⟩
abbrev cX9_takeEnds : ByteArray := prog_11_method_16_code
def yX9_takeEnds : MethodName := ⟨RX9, "takeEnds", "(I)V"⟩
abbrev cX9_countOfColumn : ByteArray := prog_11_method_17_code
def yX9_countOfColumn : MethodName := ⟨RX9, "countOfColumn", "(II)I"⟩
abbrev cX9_unlikeRows : ByteArray := prog_11_method_18_code
def yX9_unlikeRows : MethodName := ⟨RX9, "unlikeRows", "(I)I"⟩
abbrev cX9_isFirstOfItsLike : ByteArray := prog_11_method_19_code
def yX9_isFirstOfItsLike : MethodName := ⟨RX9, "isFirstOfItsLike", "(II)Z"⟩
abbrev cX9_areAlike : ByteArray := prog_11_method_20_code
def yX9_areAlike : MethodName := ⟨RX9, "areAlike", "(III)Z"⟩
abbrev cX9_foretoldGroups : ByteArray := prog_11_method_21_code
def yX9_foretoldGroups : MethodName := ⟨RX9, "foretoldGroups", "(I)I"⟩
abbrev cX9_foretoldPassing : ByteArray := prog_11_method_22_code
def yX9_foretoldPassing : MethodName := ⟨RX9, "foretoldPassing", "(IIII)I"⟩
def RX10 : String := "IndexDesk"
def TX10 : u_T := fun k => match k with
  | 0 => ("IndexDesk", "tables", "[LIndexDesk$Table;", true)
  | 1 => ("IndexDesk", "questions", "Ljava/util/ArrayList;", true)
  | 2 => ("IndexDesk", "aids", "Ljava/util/ArrayList;", true)
  | _ => ("IndexDesk", "scales", "LIndexDesk$Scales;", true)
def tyX10 : Nat → FieldType := fun k => match k with
  | 0 => .array (.object "IndexDesk$Table")
  | 1 => .object "java/util/ArrayList"
  | 2 => .object "java/util/ArrayList"
  | _ => .object "IndexDesk$Scales"
theorem nmX10 : ∀ a, a < 4 → ∀ b, b < 4 → a ≠ b → (TX10 a).2.1 ≠ (TX10 b).2.1 := by decide +kernel
theorem tyX10_ok : ∀ k, k < 4 → parseFieldDescriptor (TX10 k).2.2.1 = some (tyX10 k) := by decide +kernel
abbrev cX10_init : ByteArray := prog_1_method_1_code
def yX10_init : MethodName := ⟨RX10, "<init>", "()V"⟩
abbrev cX10_table : ByteArray := prog_1_method_2_code
def yX10_table : MethodName := ⟨RX10, "table", "(III)Z"⟩
abbrev cX10_put : ByteArray := prog_1_method_3_code
def yX10_put : MethodName := ⟨RX10, "put", "(IIIII)I"⟩
abbrev cX10_strike : ByteArray := prog_1_method_4_code
def yX10_strike : MethodName := ⟨RX10, "strike", "(II)Z"⟩
abbrev cX10_recount : ByteArray := prog_1_method_5_code
def yX10_recount : MethodName := ⟨RX10, "recount", "(I)I"⟩
abbrev cX10_counts : ByteArray := prog_1_method_6_code
def yX10_counts : MethodName := ⟨RX10, "counts", "(III)I"⟩
abbrev cX10_changes : ByteArray := prog_1_method_7_code
def yX10_changes : MethodName := ⟨RX10, "changes", "(II)Z"⟩
abbrev cX10_question : ByteArray := prog_1_method_8_code
def yX10_question : MethodName := ⟨RX10, "question", "(IIII)I"⟩
abbrev cX10_test : ByteArray := prog_1_method_9_code
def yX10_test : MethodName := ⟨RX10, "test", "(IIII)Z"⟩
abbrev cX10_order : ByteArray := prog_1_method_10_code
def yX10_order : MethodName := ⟨RX10, "order", "(IIIIII)I"⟩
abbrev cX10_part : ByteArray := prog_1_method_11_code
def yX10_part : MethodName := ⟨RX10, "part", "(IIIIII)I"⟩
abbrev cX10_sums : ByteArray := prog_1_method_12_code
def yX10_sums : MethodName := ⟨RX10, "sums", "(III)I"⟩
abbrev cX10_build : ByteArray := prog_1_method_13_code
def yX10_build : MethodName := ⟨RX10, "build", "(IZ)Z"⟩
abbrev cX10_look : ByteArray := prog_1_method_14_code
def yX10_look : MethodName := ⟨RX10, "look", "(II)J"⟩
abbrev cX10_cost : ByteArray := prog_1_method_15_code
def yX10_cost : MethodName := ⟨RX10, "cost", "(II)I"⟩
abbrev cX10_plan : ByteArray := prog_1_method_16_code
def yX10_plan : MethodName := ⟨RX10, "plan", "(I)I"⟩
abbrev cX10_run : ByteArray := prog_1_method_17_code
def yX10_run : MethodName := ⟨RX10, "run", "(II)I"⟩
abbrev cX10_total : ByteArray := prog_1_method_18_code
def yX10_total : MethodName := ⟨RX10, "total", "(I)J"⟩
abbrev cX10_room : ByteArray := prog_1_method_19_code
def yX10_room : MethodName := ⟨RX10, "room", "(I)I"⟩
abbrev cX10_built : ByteArray := prog_1_method_20_code
def yX10_built : MethodName := ⟨RX10, "built", "()I"⟩
abbrev cX10_choose : ByteArray := prog_1_method_21_code
def yX10_choose : MethodName := ⟨RX10, "choose", "(I)I"⟩
abbrev cX10_greedy : ByteArray := prog_1_method_22_code
def yX10_greedy : MethodName := ⟨RX10, "greedy", "(I)I"⟩
abbrev cX10_count : ByteArray := prog_1_method_23_code
def yX10_count : MethodName := ⟨RX10, "count", "(I)I"⟩
abbrev cX10_tableAt : ByteArray := prog_1_method_24_code
def yX10_tableAt : MethodName := ⟨RX10, "tableAt", "(I)LIndexDesk$Table;"⟩
abbrev cX10_questionAt : ByteArray := prog_1_method_25_code
def yX10_questionAt : MethodName := ⟨RX10, "questionAt", "(I)LIndexDesk$Question;"⟩
abbrev cX10_aidAt : ByteArray := prog_1_method_26_code
def yX10_aidAt : MethodName := ⟨RX10, "aidAt", "(I)LIndexDesk$Aid;"⟩
abbrev cX10_tableForAid : ByteArray := prog_1_method_27_code
def yX10_tableForAid : MethodName := ⟨RX10, "tableForAid", "(I)LIndexDesk$Table;"⟩
abbrev cX10_enlist : ByteArray := prog_1_method_28_code
def yX10_enlist : MethodName := ⟨RX10, "enlist", "(LIndexDesk$Aid;)I"⟩
abbrev cX10_isSet : ByteArray := prog_1_method_29_code
def yX10_isSet : MethodName := ⟨RX10, "isSet", "(I)Z"⟩
abbrev cX10_tablesTold : ByteArray := prog_1_method_30_code
def yX10_tablesTold : MethodName := ⟨RX10, "tablesTold", "()I"⟩
abbrev cX10_rowsInAll : ByteArray := prog_1_method_31_code
def yX10_rowsInAll : MethodName := ⟨RX10, "rowsInAll", "()I"⟩
abbrev cX10_canOrderBy : ByteArray := prog_1_method_32_code
def yX10_canOrderBy : MethodName := ⟨RX10, "canOrderBy", "(LIndexDesk$Table;III)Z"⟩
abbrev cX10_rivalsOf : ByteArray := prog_1_method_33_code
def yX10_rivalsOf : MethodName := ⟨RX10, "rivalsOf", "(Ljava/util/ArrayList;I)I"⟩
abbrev cX10_isBetween : ByteArray := prog_1_method_34_code
def yX10_isBetween : MethodName := ⟨RX10, "isBetween", "(III)Z"⟩
abbrev cX10_isRange : ByteArray := prog_1_method_35_code
def yX10_isRange : MethodName := ⟨RX10, "isRange", "(II)Z"⟩
abbrev cX10_bit : ByteArray := prog_1_method_36_code
def yX10_bit : MethodName := ⟨RX10, "bit", "(I)I"⟩
abbrev cX10_isIn : ByteArray := prog_1_method_37_code
def yX10_isIn : MethodName := ⟨RX10, "isIn", "(II)Z"⟩
abbrev cX10_dividedUp : ByteArray := prog_1_method_38_code
def yX10_dividedUp : MethodName := ⟨RX10, "dividedUp", "(II)I"⟩
def RX11 : String := "IndexDeskModel"
def TX11 : u_T := fun k => match k with
  | 0 => ("IndexDeskModel", "columns", "[I", true)
  | 1 => ("IndexDeskModel", "page", "[I", true)
  | 2 => ("IndexDeskModel", "rows", "[I", true)
  | 3 => ("IndexDeskModel", "value", "[I", true)
  | 4 => ("IndexDeskModel", "counted", "[I", true)
  | 5 => ("IndexDeskModel", "unlike", "[I", true)
  | 6 => ("IndexDeskModel", "least", "[I", true)
  | 7 => ("IndexDeskModel", "greatest", "[I", true)
  | 8 => ("IndexDeskModel", "changes", "[I", true)
  | 9 => ("IndexDeskModel", "questions", "I", false)
  | 10 => ("IndexDeskModel", "asked", "[I", true)
  | 11 => ("IndexDeskModel", "wants", "[I", true)
  | 12 => ("IndexDeskModel", "adds", "[I", true)
  | 13 => ("IndexDeskModel", "weight", "[I", true)
  | 14 => ("IndexDeskModel", "isTested", "[Z", true)
  | 15 => ("IndexDeskModel", "from", "[I", true)
  | 16 => ("IndexDeskModel", "to", "[I", true)
  | 17 => ("IndexDeskModel", "aids", "I", false)
  | 18 => ("IndexDeskModel", "built", "I", false)
  | 19 => ("IndexDeskModel", "kind", "[I", true)
  | 20 => ("IndexDeskModel", "of", "[I", true)
  | 21 => ("IndexDeskModel", "many", "[I", true)
  | 22 => ("IndexDeskModel", "by", "[I", true)
  | 23 => ("IndexDeskModel", "set", "[I", true)
  | 24 => ("IndexDeskModel", "column", "[I", true)
  | 25 => ("IndexDeskModel", "low", "[I", true)
  | 26 => ("IndexDeskModel", "high", "[I", true)
  | 27 => ("IndexDeskModel", "costs", "[I", true)
  | _ => ("IndexDeskModel", "rooms", "[I", true)
def tyX11 : Nat → FieldType := fun k => match k with
  | 0 => .array .int
  | 1 => .array .int
  | 2 => .array .int
  | 3 => .array .int
  | 4 => .array .int
  | 5 => .array .int
  | 6 => .array .int
  | 7 => .array .int
  | 8 => .array .int
  | 9 => .int
  | 10 => .array .int
  | 11 => .array .int
  | 12 => .array .int
  | 13 => .array .int
  | 14 => .array .boolean
  | 15 => .array .int
  | 16 => .array .int
  | 17 => .int
  | 18 => .int
  | 19 => .array .int
  | 20 => .array .int
  | 21 => .array .int
  | 22 => .array .int
  | 23 => .array .int
  | 24 => .array .int
  | 25 => .array .int
  | 26 => .array .int
  | 27 => .array .int
  | _ => .array .int
theorem nmX11 : ∀ a, a < 29 → ∀ b, b < 29 → a ≠ b → (TX11 a).2.1 ≠ (TX11 b).2.1 := by decide +kernel
theorem tyX11_ok : ∀ k, k < 29 → parseFieldDescriptor (TX11 k).2.2.1 = some (tyX11 k) := by decide +kernel
abbrev cX11_init : ByteArray := prog_13_method_1_code
def yX11_init : MethodName := ⟨RX11, "<init>", "()V"⟩
abbrev cX11_lies : ByteArray := prog_13_method_2_code
def yX11_lies : MethodName := ⟨RX11, "lies", "(III)Z"⟩
abbrev cX11_isTable : ByteArray := prog_13_method_3_code
def yX11_isTable : MethodName := ⟨RX11, "isTable", "(I)Z"⟩
abbrev cX11_isColumn : ByteArray := prog_13_method_4_code
def yX11_isColumn : MethodName := ⟨RX11, "isColumn", "(II)Z"⟩
abbrev cX11_up : ByteArray := prog_13_method_5_code
def yX11_up : MethodName := ⟨RX11, "up", "(II)I"⟩
abbrev cX11_isIn : ByteArray := prog_13_method_6_code
def yX11_isIn : MethodName := ⟨RX11, "isIn", "(II)Z"⟩
abbrev cX11_size : ByteArray := prog_13_method_7_code
def yX11_size : MethodName := ⟨RX11, "size", "(I)I"⟩
abbrev cX11_table : ByteArray := prog_13_method_8_code
def yX11_table : MethodName := ⟨RX11, "table", "(III)Z"⟩
abbrev cX11_at : ByteArray := prog_13_method_9_code
def yX11_at : MethodName := ⟨RX11, "at", "(III)I"⟩
abbrev cX11_put : ByteArray := prog_13_method_10_code
def yX11_put : MethodName := ⟨RX11, "put", "(IIIII)I"⟩
abbrev cX11_strike : ByteArray := prog_13_method_11_code
def yX11_strike : MethodName := ⟨RX11, "strike", "(II)Z"⟩
abbrev cX11_recount : ByteArray := prog_13_method_12_code
def yX11_recount : MethodName := ⟨RX11, "recount", "(I)I"⟩
abbrev cX11_pages : ByteArray := prog_13_method_13_code
def yX11_pages : MethodName := ⟨RX11, "pages", "(I)I"⟩
abbrev cX11_counts : ByteArray := prog_13_method_14_code
def yX11_counts : MethodName := ⟨RX11, "counts", "(III)I"⟩
abbrev cX11_changes : ByteArray := prog_13_method_15_code
def yX11_changes : MethodName := ⟨RX11, "changes", "(II)Z"⟩
abbrev cX11_question : ByteArray := prog_13_method_16_code
def yX11_question : MethodName := ⟨RX11, "question", "(IIII)I"⟩
abbrev cX11_isQuestion : ByteArray := prog_13_method_17_code
def yX11_isQuestion : MethodName := ⟨RX11, "isQuestion", "(I)Z"⟩
abbrev cX11_test : ByteArray := prog_13_method_18_code
def yX11_test : MethodName := ⟨RX11, "test", "(IIII)Z"⟩
abbrev cX11_aid : ByteArray := prog_13_method_19_code
def yX11_aid : MethodName := ⟨RX11, "aid", "(IIIII)I"⟩
abbrev cX11_inTurn : ByteArray := prog_13_method_20_code
def yX11_inTurn : MethodName := ⟨RX11, "inTurn", "(IIII)I"⟩
abbrev cX11_order : ByteArray := prog_13_method_21_code
def yX11_order : MethodName := ⟨RX11, "order", "(IIIIII)I"⟩
abbrev cX11_part : ByteArray := prog_13_method_22_code
def yX11_part : MethodName := ⟨RX11, "part", "(IIIIII)I"⟩
abbrev cX11_sums : ByteArray := prog_13_method_23_code
def yX11_sums : MethodName := ⟨RX11, "sums", "(III)I"⟩
abbrev cX11_isAid : ByteArray := prog_13_method_24_code
def yX11_isAid : MethodName := ⟨RX11, "isAid", "(I)Z"⟩
abbrev cX11_build : ByteArray := prog_13_method_25_code
def yX11_build : MethodName := ⟨RX11, "build", "(IZ)Z"⟩
abbrev cX11_isSet : ByteArray := prog_13_method_26_code
def yX11_isSet : MethodName := ⟨RX11, "isSet", "(I)Z"⟩
abbrev cX11_passes : ByteArray := prog_13_method_27_code
def yX11_passes : MethodName := ⟨RX11, "passes", "(IIIII)I"⟩
abbrev cX11_uses : ByteArray := prog_13_method_28_code
def yX11_uses : MethodName := ⟨RX11, "uses", "(II)I"⟩
abbrev cX11_own : ByteArray := prog_13_method_29_code
def yX11_own : MethodName := ⟨RX11, "own", "(I)I"⟩
abbrev cX11_matched : ByteArray := prog_13_method_30_code
def yX11_matched : MethodName := ⟨RX11, "matched", "(II)I"⟩
abbrev cX11_groups : ByteArray := prog_13_method_31_code
def yX11_groups : MethodName := ⟨RX11, "groups", "(I)I"⟩
abbrev cX11_roomOf : ByteArray := prog_13_method_32_code
def yX11_roomOf : MethodName := ⟨RX11, "roomOf", "(I)I"⟩
abbrev cX11_keeping : ByteArray := prog_13_method_33_code
def yX11_keeping : MethodName := ⟨RX11, "keeping", "(I)I"⟩
abbrev cX11_tested : ByteArray := prog_13_method_34_code
def yX11_tested : MethodName := ⟨RX11, "tested", "(I)I"⟩
abbrev cX11_helps : ByteArray := prog_13_method_35_code
def yX11_helps : MethodName := ⟨RX11, "helps", "(II)Z"⟩
abbrev cX11_covers : ByteArray := prog_13_method_36_code
def yX11_covers : MethodName := ⟨RX11, "covers", "(II)Z"⟩
abbrev cX11_costOf : ByteArray := prog_13_method_37_code
def yX11_costOf : MethodName := ⟨RX11, "costOf", "(II)I"⟩
abbrev cX11_cost : ByteArray := prog_13_method_38_code
def yX11_cost : MethodName := ⟨RX11, "cost", "(II)I"⟩
abbrev cX11_planOf : ByteArray := prog_13_method_39_code
def yX11_planOf : MethodName := ⟨RX11, "planOf", "(II)I"⟩
abbrev cX11_plan : ByteArray := prog_13_method_40_code
def yX11_plan : MethodName := ⟨RX11, "plan", "(I)I"⟩
abbrev cX11_passesNow : ByteArray := prog_13_method_41_code
def yX11_passesNow : MethodName := ⟨RX11, "passesNow", "(IIIII)Z"⟩
abbrev cX11_answers : ByteArray := prog_13_method_42_code
def yX11_answers : MethodName := ⟨RX11, "answers", "(II)Z"⟩
abbrev cX11_matchesNow : ByteArray := prog_13_method_43_code
def yX11_matchesNow : MethodName := ⟨RX11, "matchesNow", "(III)Z"⟩
abbrev cX11_alike : ByteArray := prog_13_method_44_code
def yX11_alike : MethodName := ⟨RX11, "alike", "(IIII)Z"⟩
abbrev cX11_fetched : ByteArray := prog_13_method_45_code
def yX11_fetched : MethodName := ⟨RX11, "fetched", "(I)I"⟩
abbrev cX11_run : ByteArray := prog_13_method_46_code
def yX11_run : MethodName := ⟨RX11, "run", "(II)I"⟩
abbrev cX11_totalOf : ByteArray := prog_13_method_47_code
def yX11_totalOf : MethodName := ⟨RX11, "totalOf", "(I)J"⟩
abbrev cX11_roomOfSet : ByteArray := prog_13_method_48_code
def yX11_roomOfSet : MethodName := ⟨RX11, "roomOfSet", "(I)I"⟩
abbrev cX11_total : ByteArray := prog_13_method_49_code
def yX11_total : MethodName := ⟨RX11, "total", "(I)J"⟩
abbrev cX11_room : ByteArray := prog_13_method_50_code
def yX11_room : MethodName := ⟨RX11, "room", "(I)I"⟩
abbrev cX11_built : ByteArray := prog_13_method_51_code
def yX11_built : MethodName := ⟨RX11, "built", "()I"⟩
abbrev cX11_look : ByteArray := prog_13_method_52_code
def yX11_look : MethodName := ⟨RX11, "look", "(II)J"⟩
abbrev cX11_works : ByteArray := prog_13_method_53_code
def yX11_works : MethodName := ⟨RX11, "works", "()V"⟩
abbrev cX11_totalWorked : ByteArray := prog_13_method_54_code
def yX11_totalWorked : MethodName := ⟨RX11, "totalWorked", "(I)J"⟩
abbrev cX11_isAhead : ByteArray := prog_13_method_55_code
def yX11_isAhead : MethodName := ⟨RX11, "isAhead", "(II)Z"⟩
abbrev cX11_choose : ByteArray := prog_13_method_56_code
def yX11_choose : MethodName := ⟨RX11, "choose", "(I)I"⟩
abbrev cX11_greedy : ByteArray := prog_13_method_57_code
def yX11_greedy : MethodName := ⟨RX11, "greedy", "(I)I"⟩
abbrev cX11_count : ByteArray := prog_13_method_58_code
def yX11_count : MethodName := ⟨RX11, "count", "(I)I"⟩
def RJx145de : String := "java/io/Serializable"
def TJx145de : u_T := fun k => match k with
  | _ => ("", "", "", false)
def tyJx145de : Nat → FieldType := fun k => match k with
  | _ => .int
theorem nmJx145de : ∀ a, a < 0 → ∀ b, b < 0 → a ≠ b → (TJx145de a).2.1 ≠ (TJx145de b).2.1 := by decide +kernel
theorem tyJx145de_ok : ∀ k, k < 0 → parseFieldDescriptor (TJx145de k).2.2.1 = some (tyJx145de k) := by decide +kernel
def RJx8e188 : String := "java/lang/Cloneable"
def TJx8e188 : u_T := fun k => match k with
  | _ => ("", "", "", false)
def tyJx8e188 : Nat → FieldType := fun k => match k with
  | _ => .int
theorem nmJx8e188 : ∀ a, a < 0 → ∀ b, b < 0 → a ≠ b → (TJx8e188 a).2.1 ≠ (TJx8e188 b).2.1 := by decide +kernel
theorem tyJx8e188_ok : ∀ k, k < 0 → parseFieldDescriptor (TJx8e188 k).2.2.1 = some (tyJx8e188 k) := by decide +kernel
def RJ6 : String := "java/lang/Integer"
def TJ6 : u_T := fun k => match k with
  | _ => ("", "", "", false)
def tyJ6 : Nat → FieldType := fun k => match k with
  | _ => .int
theorem nmJ6 : ∀ a, a < 0 → ∀ b, b < 0 → a ≠ b → (TJ6 a).2.1 ≠ (TJ6 b).2.1 := by decide +kernel
theorem tyJ6_ok : ∀ k, k < 0 → parseFieldDescriptor (TJ6 k).2.2.1 = some (tyJ6 k) := by decide +kernel
abbrev cJ6_bitCount_0f7a4 : ByteArray := prog_16_method_49_code
def yJ6_bitCount_0f7a4 : MethodName := ⟨RJ6, "bitCount", "(I)I"⟩
def RJxab1ab : String := "java/lang/Iterable"
def TJxab1ab : u_T := fun k => match k with
  | _ => ("", "", "", false)
def tyJxab1ab : Nat → FieldType := fun k => match k with
  | _ => .int
theorem nmJxab1ab : ∀ a, a < 0 → ∀ b, b < 0 → a ≠ b → (TJxab1ab a).2.1 ≠ (TJxab1ab b).2.1 := by decide +kernel
theorem tyJxab1ab_ok : ∀ k, k < 0 → parseFieldDescriptor (TJxab1ab k).2.2.1 = some (tyJxab1ab k) := by decide +kernel
def RJ9 : String := "java/lang/Math"
def TJ9 : u_T := fun k => match k with
  | _ => ("", "", "", false)
def tyJ9 : Nat → FieldType := fun k => match k with
  | _ => .int
theorem nmJ9 : ∀ a, a < 0 → ∀ b, b < 0 → a ≠ b → (TJ9 a).2.1 ≠ (TJ9 b).2.1 := by decide +kernel
theorem tyJ9_ok : ∀ k, k < 0 → parseFieldDescriptor (TJ9 k).2.2.1 = some (tyJ9 k) := by decide +kernel
abbrev cJ9_max_7cf53 : ByteArray := prog_18_method_65_code
def yJ9_max_7cf53 : MethodName := ⟨RJ9, "max", "(II)I"⟩
abbrev cJ9_min_7cf53 : ByteArray := prog_18_method_69_code
def yJ9_min_7cf53 : MethodName := ⟨RJ9, "min", "(II)I"⟩
def RJ10 : String := "java/lang/System"
def TJ10 : u_T := fun k => match k with
  | _ => ("", "", "", false)
def tyJ10 : Nat → FieldType := fun k => match k with
  | _ => .int
theorem nmJ10 : ∀ a, a < 0 → ∀ b, b < 0 → a ≠ b → (TJ10 a).2.1 ≠ (TJ10 b).2.1 := by decide +kernel
theorem tyJ10_ok : ∀ k, k < 0 → parseFieldDescriptor (TJ10 k).2.2.1 = some (tyJ10 k) := by decide +kernel
def RJxa1e45 : String := "java/util/AbstractCollection"
def TJxa1e45 : u_T := fun k => match k with
  | _ => ("", "", "", false)
def tyJxa1e45 : Nat → FieldType := fun k => match k with
  | _ => .int
theorem nmJxa1e45 : ∀ a, a < 0 → ∀ b, b < 0 → a ≠ b → (TJxa1e45 a).2.1 ≠ (TJxa1e45 b).2.1 := by decide +kernel
theorem tyJxa1e45_ok : ∀ k, k < 0 → parseFieldDescriptor (TJxa1e45 k).2.2.1 = some (tyJxa1e45 k) := by decide +kernel
abbrev cJxa1e45_init_da8c8 : ByteArray := prog_20_method_1_code
def yJxa1e45_init_da8c8 : MethodName := ⟨RJxa1e45, "<init>", "()V"⟩
def RJxc12de : String := "java/util/AbstractList"
def TJxc12de : u_T := fun k => match k with
  | _ => ("", "", "", false)
def tyJxc12de : Nat → FieldType := fun k => match k with
  | _ => .int
theorem nmJxc12de : ∀ a, a < 0 → ∀ b, b < 0 → a ≠ b → (TJxc12de a).2.1 ≠ (TJxc12de b).2.1 := by decide +kernel
theorem tyJxc12de_ok : ∀ k, k < 0 → parseFieldDescriptor (TJxc12de k).2.2.1 = some (tyJxc12de k) := by decide +kernel
abbrev cJxc12de_init_da8c8 : ByteArray := prog_21_method_1_code
def yJxc12de_init_da8c8 : MethodName := ⟨RJxc12de, "<init>", "()V"⟩
def RJx4a65c : String := "java/util/ArrayList"
def TJx4a65c : u_T := fun k => match k with
  | 0 => ("java/util/AbstractList", "modCount", "I", false)
  | 1 => ("java/util/ArrayList", "elementData", "[Ljava/lang/Object;", false)
  | _ => ("java/util/ArrayList", "size", "I", false)
def tyJx4a65c : Nat → FieldType := fun k => match k with
  | 0 => .int
  | 1 => .array (.object "java/lang/Object")
  | _ => .int
theorem nmJx4a65c : ∀ a, a < 3 → ∀ b, b < 3 → a ≠ b → (TJx4a65c a).2.1 ≠ (TJx4a65c b).2.1 := by decide +kernel
theorem tyJx4a65c_ok : ∀ k, k < 3 → parseFieldDescriptor (TJx4a65c k).2.2.1 = some (tyJx4a65c k) := by decide +kernel
abbrev cJx4a65c_init_da8c8 : ByteArray := prog_22_method_2_code
def yJx4a65c_init_da8c8 : MethodName := ⟨RJx4a65c, "<init>", "()V"⟩
abbrev cJx4a65c_grow_92f84 : ByteArray := prog_22_method_6_code
def yJx4a65c_grow_92f84 : MethodName := ⟨RJx4a65c, "grow", "(I)[Ljava/lang/Object;"⟩
abbrev cJx4a65c_grow_d5877 : ByteArray := prog_22_method_7_code
def yJx4a65c_grow_d5877 : MethodName := ⟨RJx4a65c, "grow", "()[Ljava/lang/Object;"⟩
abbrev cJx4a65c_size_8abf5 : ByteArray := prog_22_method_8_code
def yJx4a65c_size_8abf5 : MethodName := ⟨RJx4a65c, "size", "()I"⟩
abbrev cJx4a65c_elementData_915e3 : ByteArray := prog_22_method_18_code
def yJx4a65c_elementData_915e3 : MethodName := ⟨RJx4a65c, "elementData", "(I)Ljava/lang/Object;"⟩
abbrev cJx4a65c_get_915e3 : ByteArray := prog_22_method_20_code
def yJx4a65c_get_915e3 : MethodName := ⟨RJx4a65c, "get", "(I)Ljava/lang/Object;"⟩
abbrev cJx4a65c_add_72be8 : ByteArray := prog_22_method_24_code
def yJx4a65c_add_72be8 : MethodName := ⟨RJx4a65c, "add", "(Ljava/lang/Object;[Ljava/lang/Object;I)V"⟩
abbrev cJx4a65c_add_9ea2d : ByteArray := prog_22_method_25_code
def yJx4a65c_add_9ea2d : MethodName := ⟨RJx4a65c, "add", "(Ljava/lang/Object;)Z"⟩
def RJ7 : String := "java/util/Arrays"
def TJ7 : u_T := fun k => match k with
  | _ => ("", "", "", false)
def tyJ7 : Nat → FieldType := fun k => match k with
  | _ => .int
theorem nmJ7 : ∀ a, a < 0 → ∀ b, b < 0 → a ≠ b → (TJ7 a).2.1 ≠ (TJ7 b).2.1 := by decide +kernel
theorem tyJ7_ok : ∀ k, k < 0 → parseFieldDescriptor (TJ7 k).2.2.1 = some (tyJ7 k) := by decide +kernel
abbrev cJ7_copyOf_1904c : ByteArray := prog_23_method_119_code
def yJ7_copyOf_1904c : MethodName := ⟨RJ7, "copyOf", "([Ljava/lang/Object;I)[Ljava/lang/Object;"⟩
abbrev cJ7_copyOf_6403c : ByteArray := prog_23_method_120_code
def yJ7_copyOf_6403c : MethodName := ⟨RJ7, "copyOf", "([Ljava/lang/Object;ILjava/lang/Class;)[Ljava/lang/Object;"⟩
def RJx5ef63 : String := "java/util/Collection"
def TJx5ef63 : u_T := fun k => match k with
  | _ => ("", "", "", false)
def tyJx5ef63 : Nat → FieldType := fun k => match k with
  | _ => .int
theorem nmJx5ef63 : ∀ a, a < 0 → ∀ b, b < 0 → a ≠ b → (TJx5ef63 a).2.1 ≠ (TJx5ef63 b).2.1 := by decide +kernel
theorem tyJx5ef63_ok : ∀ k, k < 0 → parseFieldDescriptor (TJx5ef63 k).2.2.1 = some (tyJx5ef63 k) := by decide +kernel
def RJxbd725 : String := "java/util/List"
def TJxbd725 : u_T := fun k => match k with
  | _ => ("", "", "", false)
def tyJxbd725 : Nat → FieldType := fun k => match k with
  | _ => .int
theorem nmJxbd725 : ∀ a, a < 0 → ∀ b, b < 0 → a ≠ b → (TJxbd725 a).2.1 ≠ (TJxbd725 b).2.1 := by decide +kernel
theorem tyJxbd725_ok : ∀ k, k < 0 → parseFieldDescriptor (TJxbd725 k).2.2.1 = some (tyJxbd725 k) := by decide +kernel
def RJ15 : String := "java/util/Objects"
def TJ15 : u_T := fun k => match k with
  | _ => ("", "", "", false)
def tyJ15 : Nat → FieldType := fun k => match k with
  | _ => .int
theorem nmJ15 : ∀ a, a < 0 → ∀ b, b < 0 → a ≠ b → (TJ15 a).2.1 ≠ (TJ15 b).2.1 := by decide +kernel
theorem tyJ15_ok : ∀ k, k < 0 → parseFieldDescriptor (TJ15 k).2.2.1 = some (tyJ15 k) := by decide +kernel
abbrev cJ15_checkIndex_7cf53 : ByteArray := prog_26_method_17_code
def yJ15_checkIndex_7cf53 : MethodName := ⟨RJ15, "checkIndex", "(II)I"⟩
def RJxf0a74 : String := "java/util/RandomAccess"
def TJxf0a74 : u_T := fun k => match k with
  | _ => ("", "", "", false)
def tyJxf0a74 : Nat → FieldType := fun k => match k with
  | _ => .int
theorem nmJxf0a74 : ∀ a, a < 0 → ∀ b, b < 0 → a ≠ b → (TJxf0a74 a).2.1 ≠ (TJxf0a74 b).2.1 := by decide +kernel
theorem tyJxf0a74_ok : ∀ k, k < 0 → parseFieldDescriptor (TJxf0a74 k).2.2.1 = some (tyJxf0a74 k) := by decide +kernel
def RJxa66e6 : String := "java/util/SequencedCollection"
def TJxa66e6 : u_T := fun k => match k with
  | _ => ("", "", "", false)
def tyJxa66e6 : Nat → FieldType := fun k => match k with
  | _ => .int
theorem nmJxa66e6 : ∀ a, a < 0 → ∀ b, b < 0 → a ≠ b → (TJxa66e6 a).2.1 ≠ (TJxa66e6 b).2.1 := by decide +kernel
theorem tyJxa66e6_ok : ∀ k, k < 0 → parseFieldDescriptor (TJxa66e6 k).2.2.1 = some (tyJxa66e6 k) := by decide +kernel
def RJ8 : String := "jdk/internal/util/ArraysSupport"
def TJ8 : u_T := fun k => match k with
  | _ => ("", "", "", false)
def tyJ8 : Nat → FieldType := fun k => match k with
  | _ => .int
theorem nmJ8 : ∀ a, a < 0 → ∀ b, b < 0 → a ≠ b → (TJ8 a).2.1 ≠ (TJ8 b).2.1 := by decide +kernel
theorem tyJ8_ok : ∀ k, k < 0 → parseFieldDescriptor (TJ8 k).2.2.1 = some (tyJ8 k) := by decide +kernel
abbrev cJ8_newLength_cabcc : ByteArray := prog_29_method_27_code
def yJ8_newLength_cabcc : MethodName := ⟨RJ8, "newLength", "(III)I"⟩
abbrev cJ8_hugeLength_7cf53 : ByteArray := prog_29_method_28_code
def yJ8_hugeLength_7cf53 : MethodName := ⟨RJ8, "hugeLength", "(II)I"⟩
def RJ3 : String := "jdk/internal/util/Preconditions"
def TJ3 : u_T := fun k => match k with
  | _ => ("", "", "", false)
def tyJ3 : Nat → FieldType := fun k => match k with
  | _ => .int
theorem nmJ3 : ∀ a, a < 0 → ∀ b, b < 0 → a ≠ b → (TJ3 a).2.1 ≠ (TJ3 b).2.1 := by decide +kernel
theorem tyJ3_ok : ∀ k, k < 0 → parseFieldDescriptor (TJ3 k).2.2.1 = some (tyJ3 k) := by decide +kernel
abbrev cJ3_checkIndex_8e157 : ByteArray := prog_30_method_11_code
def yJ3_checkIndex_8e157 : MethodName := ⟨RJ3, "checkIndex", "(IILjava/util/function/BiFunction;)I"⟩
def RL : String := "IndexDeskLaw"
abbrev cL_law : ByteArray := code
def yL_law : MethodName := ⟨RL, "law", "([I)Z"⟩
abbrev vwCl : List vw_C := [(RJx4a65c, TJx4a65c, 3), (RX1, TX1, 5), (RX2, TX2, 6), (RX3, TX3, 5), (RX5, TX5, 8), (RX6, TX6, 7), (RX7, TX7, 10), (RX8, TX8, 5), (RX9, TX9, 10), (RX10, TX10, 4), (RX11, TX11, 29)]
