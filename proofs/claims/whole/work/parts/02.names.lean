/-! ===== BEGIN words of one list among another's, by their places ===== -/
theorem goodIn_r {big : List Cond} (ws : List Cond) (ps : List Nat) (hp : ws = ps.filterMap (fun i => big[i]?)) (h : ws.all goodWord = true) : GoodIn big ws := by
  intro w hw
  have h1 := List.all_eq_true.mp h w hw
  rw [hp] at hw
  obtain ⟨i, -, hi⟩ := List.mem_filterMap.mp hw
  have hm : w ∈ big := by first | exact List.mem_of_getElem? hi | exact List.getElem?_mem hi
  exact ⟨hm, good_of_word h1⟩
theorem goodIn_app {big a b : List Cond} (ha : GoodIn big a) (hb : GoodIn big b) : GoodIn big (a ++ b) := fun w h => (List.mem_append.mp h).elim (ha w) (hb w)
theorem goodIn_ca {big a b : List Cond} {c : Cond} (ha : GoodIn big (c :: a)) (hb : GoodIn big b) : GoodIn big (c :: (a ++ b)) := fun w h => (List.mem_cons.mp h).elim (fun e => ha w (List.mem_cons.mpr (Or.inl e))) (fun h => (List.mem_append.mp h).elim (fun h => ha w (List.mem_cons.mpr (Or.inr h))) (hb w))
theorem goodIn_sub {big ws : List Cond} (hm : ∀ w ∈ ws, w ∈ big) (h : ws.all goodWord = true) : GoodIn big ws := fun w hw => ⟨hm w hw, good_of_word (List.all_eq_true.mp h w hw)⟩
/-! ===== END ===== -/

/-! ===== BEGIN printed: names, fields, word lists, decode rows ===== -/
def RX0 : String := "ArrayMaker$Lines"
def TX0 : u_T := fun k => match k with
  | 0 => ("ArrayMaker$Lines", "i", "[I", true)
  | 1 => ("ArrayMaker$Lines", "j", "[I", true)
  | 2 => ("ArrayMaker$Lines", "k", "[I", true)
  | 3 => ("ArrayMaker$Lines", "v", "[J", true)
  | _ => ("ArrayMaker$Lines", "count", "I", false)
def tyX0 : Nat → FieldType := fun k => match k with
  | 0 => .array .int
  | 1 => .array .int
  | 2 => .array .int
  | 3 => .array .long
  | _ => .int
abbrev wsX00 : List Cond := u_ws RX0 TX0 5
theorem nmX0 : ∀ a, a < 5 → ∀ b, b < 5 → a ≠ b → (TX0 a).2.1 ≠ (TX0 b).2.1 := by decide +kernel
theorem tyX0_ok : ∀ k, k < 5 → parseFieldDescriptor (TX0 k).2.2.1 = some (tyX0 k) := by decide +kernel
abbrev cX0_init : ByteArray := prog_2_method_1_code
def yX0_init : MethodName := ⟨RX0, "<init>", "()V"⟩
abbrev cX0_add : ByteArray := prog_2_method_2_code
def yX0_add : MethodName := ⟨RX0, "add", "(IIIJ)V"⟩
def RX1 : String := "ArrayMaker$MadeArray"
def TX1 : u_T := fun k => match k with
  | 0 => ("ArrayMaker$MadeArray", "shape", "LArrayMaker$Shape;", true)
  | 1 => ("ArrayMaker$MadeArray", "kind", "I", false)
  | 2 => ("ArrayMaker$MadeArray", "row", "I", false)
  | _ => ("ArrayMaker$MadeArray", "rows", "[I", false)
def tyX1 : Nat → FieldType := fun k => match k with
  | 0 => .object "ArrayMaker$Shape"
  | 1 => .int
  | 2 => .int
  | _ => .array .int
abbrev wsX10 : List Cond := u_ws RX1 TX1 4
theorem nmX1 : ∀ a, a < 4 → ∀ b, b < 4 → a ≠ b → (TX1 a).2.1 ≠ (TX1 b).2.1 := by decide +kernel
theorem tyX1_ok : ∀ k, k < 4 → parseFieldDescriptor (TX1 k).2.2.1 = some (tyX1 k) := by decide +kernel
abbrev cX1_init : ByteArray := prog_3_method_1_code
def yX1_init : MethodName := ⟨RX1, "<init>", "()V"⟩
abbrev cX1_rowCount : ByteArray := prog_3_method_2_code
def yX1_rowCount : MethodName := ⟨RX1, "rowCount", "()I"⟩
def RX2 : String := "ArrayMaker$Shape"
def TX2 : u_T := fun k => match k with
  | 0 => ("ArrayMaker$Shape", "low", "[I", true)
  | 1 => ("ArrayMaker$Shape", "high", "[I", true)
  | _ => ("ArrayMaker$Shape", "count", "I", false)
def tyX2 : Nat → FieldType := fun k => match k with
  | 0 => .array .int
  | 1 => .array .int
  | _ => .int
abbrev wsX20 : List Cond := u_ws RX2 TX2 3
theorem nmX2 : ∀ a, a < 3 → ∀ b, b < 3 → a ≠ b → (TX2 a).2.1 ≠ (TX2 b).2.1 := by decide +kernel
theorem tyX2_ok : ∀ k, k < 3 → parseFieldDescriptor (TX2 k).2.2.1 = some (tyX2 k) := by decide +kernel
abbrev cX2_init : ByteArray := prog_4_method_1_code
def yX2_init : MethodName := ⟨RX2, "<init>", "()V"⟩
abbrev cX2_add : ByteArray := prog_4_method_2_code
def yX2_add : MethodName := ⟨RX2, "add", "(II)V"⟩
abbrev cX2_addAll : ByteArray := prog_4_method_3_code
def yX2_addAll : MethodName := ⟨RX2, "addAll", "(LArrayMaker$Shape;)V"⟩
abbrev cX2_swapFirstTwo : ByteArray := prog_4_method_4_code
def yX2_swapFirstTwo : MethodName := ⟨RX2, "swapFirstTwo", "()V"⟩
abbrev cX2_length : ByteArray := prog_4_method_5_code
def yX2_length : MethodName := ⟨RX2, "length", "(I)J"⟩
abbrev cX2_items : ByteArray := prog_4_method_6_code
def yX2_items : MethodName := ⟨RX2, "items", "()I"⟩
abbrev cX2_holds : ByteArray := prog_4_method_7_code
def yX2_holds : MethodName := ⟨RX2, "holds", "(II)Z"⟩
abbrev cX2_offset : ByteArray := prog_4_method_8_code
def yX2_offset : MethodName := ⟨RX2, "offset", "(II)I"⟩
abbrev cX2_firstBeyond : ByteArray := prog_4_method_9_code
def yX2_firstBeyond : MethodName := ⟨RX2, "firstBeyond", "(III)I"⟩
abbrev cX2_place : ByteArray := prog_4_method_10_code
def yX2_place : MethodName := ⟨RX2, "place", "(III)I"⟩
abbrev cX2_indexOf : ByteArray := prog_4_method_11_code
def yX2_indexOf : MethodName := ⟨RX2, "indexOf", "(IIII)I"⟩
def RX3 : String := "ArrayMaker$Store"
def TX3 : u_T := fun k => match k with
  | 0 => ("ArrayMaker$Store", "numbers", "[J", false)
  | 1 => ("ArrayMaker$Store", "filled", "[Z", false)
  | 2 => ("ArrayMaker$Store", "starts", "[I", false)
  | 3 => ("ArrayMaker$Store", "lengths", "[I", false)
  | 4 => ("ArrayMaker$Store", "cellCount", "I", false)
  | _ => ("ArrayMaker$Store", "rowCount", "I", false)
def tyX3 : Nat → FieldType := fun k => match k with
  | 0 => .array .long
  | 1 => .array .boolean
  | 2 => .array .int
  | 3 => .array .int
  | 4 => .int
  | _ => .int
abbrev wsX30 : List Cond := u_ws RX3 TX3 6
theorem nmX3 : ∀ a, a < 6 → ∀ b, b < 6 → a ≠ b → (TX3 a).2.1 ≠ (TX3 b).2.1 := by decide +kernel
theorem tyX3_ok : ∀ k, k < 6 → parseFieldDescriptor (TX3 k).2.2.1 = some (tyX3 k) := by decide +kernel
abbrev cX3_init : ByteArray := prog_5_method_1_code
def yX3_init : MethodName := ⟨RX3, "<init>", "()V"⟩
abbrev cX3_reserve : ByteArray := prog_5_method_2_code
def yX3_reserve : MethodName := ⟨RX3, "reserve", "(II)Z"⟩
abbrev cX3_growRows : ByteArray := prog_5_method_3_code
def yX3_growRows : MethodName := ⟨RX3, "growRows", "(I)V"⟩
abbrev cX3_growCells : ByteArray := prog_5_method_4_code
def yX3_growCells : MethodName := ⟨RX3, "growCells", "(I)V"⟩
abbrev cX3_grown : ByteArray := prog_5_method_5_code
def yX3_grown : MethodName := ⟨RX3, "grown", "([ZI)[Z"⟩
abbrev cX3_addRow : ByteArray := prog_5_method_6_code
def yX3_addRow : MethodName := ⟨RX3, "addRow", "(IZ)I"⟩
abbrev cX3_forget : ByteArray := prog_5_method_7_code
def yX3_forget : MethodName := ⟨RX3, "forget", "()V"⟩
abbrev cX3_startOf : ByteArray := prog_5_method_8_code
def yX3_startOf : MethodName := ⟨RX3, "startOf", "(I)I"⟩
abbrev cX3_lengthOf : ByteArray := prog_5_method_9_code
def yX3_lengthOf : MethodName := ⟨RX3, "lengthOf", "(I)I"⟩
abbrev cX3_fill : ByteArray := prog_5_method_10_code
def yX3_fill : MethodName := ⟨RX3, "fill", "(IJ)V"⟩
abbrev cX3_drain : ByteArray := prog_5_method_11_code
def yX3_drain : MethodName := ⟨RX3, "drain", "(I)V"⟩
abbrev cX3_copyCells : ByteArray := prog_5_method_12_code
def yX3_copyCells : MethodName := ⟨RX3, "copyCells", "(III)V"⟩
abbrev cX3_totalOf : ByteArray := prog_5_method_13_code
def yX3_totalOf : MethodName := ⟨RX3, "totalOf", "(I)J"⟩
abbrev cX3_orderOf : ByteArray := prog_5_method_14_code
def yX3_orderOf : MethodName := ⟨RX3, "orderOf", "(II)I"⟩
def RX4 : String := "ArrayMaker"
def TX4 : u_T := fun k => match k with
  | 0 => ("ArrayMaker", "shape", "LArrayMaker$Shape;", true)
  | 1 => ("ArrayMaker", "list", "LArrayMaker$Lines;", true)
  | 2 => ("ArrayMaker", "store", "LArrayMaker$Store;", true)
  | 3 => ("ArrayMaker", "arrays", "[LArrayMaker$MadeArray;", true)
  | 4 => ("ArrayMaker", "sources", "[I", true)
  | 5 => ("ArrayMaker", "made", "I", false)
  | 6 => ("ArrayMaker", "code", "I", false)
  | _ => ("ArrayMaker", "which", "I", false)
def tyX4 : Nat → FieldType := fun k => match k with
  | 0 => .object "ArrayMaker$Shape"
  | 1 => .object "ArrayMaker$Lines"
  | 2 => .object "ArrayMaker$Store"
  | 3 => .array (.object "ArrayMaker$MadeArray")
  | 4 => .array .int
  | 5 => .int
  | 6 => .int
  | _ => .int
abbrev wsX40 : List Cond := u_ws RX4 TX4 8
theorem nmX4 : ∀ a, a < 8 → ∀ b, b < 8 → a ≠ b → (TX4 a).2.1 ≠ (TX4 b).2.1 := by decide +kernel
theorem tyX4_ok : ∀ k, k < 8 → parseFieldDescriptor (TX4 k).2.2.1 = some (tyX4 k) := by decide +kernel
abbrev cX4_init : ByteArray := prog_1_method_1_code
def yX4_init : MethodName := ⟨RX4, "<init>", "()V"⟩
abbrev cX4_code : ByteArray := prog_1_method_2_code
def yX4_code : MethodName := ⟨RX4, "code", "()I"⟩
abbrev cX4_which : ByteArray := prog_1_method_3_code
def yX4_which : MethodName := ⟨RX4, "which", "()I"⟩
abbrev cX4_range : ByteArray := prog_1_method_4_code
def yX4_range : MethodName := ⟨RX4, "range", "(II)I"⟩
abbrev cX4_shapeless : ByteArray := prog_1_method_5_code
def yX4_shapeless : MethodName := ⟨RX4, "shapeless", "()I"⟩
abbrev cX4_make : ByteArray := prog_1_method_6_code
def yX4_make : MethodName := ⟨RX4, "make", "(I)I"⟩
abbrev cX4_raw : ByteArray := prog_1_method_7_code
def yX4_raw : MethodName := ⟨RX4, "raw", "(II)I"⟩
abbrev cX4_see : ByteArray := prog_1_method_8_code
def yX4_see : MethodName := ⟨RX4, "see", "(I)I"⟩
abbrev cX4_turn : ByteArray := prog_1_method_9_code
def yX4_turn : MethodName := ⟨RX4, "turn", "(I)I"⟩
abbrev cX4_cut : ByteArray := prog_1_method_10_code
def yX4_cut : MethodName := ⟨RX4, "cut", "(I)I"⟩
abbrev cX4_deep : ByteArray := prog_1_method_11_code
def yX4_deep : MethodName := ⟨RX4, "deep", "(I)I"⟩
abbrev cX4_flat : ByteArray := prog_1_method_12_code
def yX4_flat : MethodName := ⟨RX4, "flat", "(I)I"⟩
abbrev cX4_ragged : ByteArray := prog_1_method_13_code
def yX4_ragged : MethodName := ⟨RX4, "ragged", "(III)I"⟩
abbrev cX4_without : ByteArray := prog_1_method_14_code
def yX4_without : MethodName := ⟨RX4, "without", "(II)I"⟩
abbrev cX4_tie : ByteArray := prog_1_method_15_code
def yX4_tie : MethodName := ⟨RX4, "tie", "(IIII)I"⟩
abbrev cX4_get : ByteArray := prog_1_method_16_code
def yX4_get : MethodName := ⟨RX4, "get", "(IIII)J"⟩
abbrev cX4_put : ByteArray := prog_1_method_17_code
def yX4_put : MethodName := ⟨RX4, "put", "(IIIIJ)I"⟩
abbrev cX4_empty : ByteArray := prog_1_method_18_code
def yX4_empty : MethodName := ⟨RX4, "empty", "(IIII)I"⟩
abbrev cX4_pair : ByteArray := prog_1_method_19_code
def yX4_pair : MethodName := ⟨RX4, "pair", "(IIIJ)I"⟩
abbrev cX4_gather : ByteArray := prog_1_method_20_code
def yX4_gather : MethodName := ⟨RX4, "gather", "(II)I"⟩
abbrev cX4_join : ByteArray := prog_1_method_21_code
def yX4_join : MethodName := ⟨RX4, "join", "(III)I"⟩
abbrev cX4_sum : ByteArray := prog_1_method_22_code
def yX4_sum : MethodName := ⟨RX4, "sum", "(I)J"⟩
abbrev cX4_mean : ByteArray := prog_1_method_23_code
def yX4_mean : MethodName := ⟨RX4, "mean", "(I)J"⟩
abbrev cX4_about : ByteArray := prog_1_method_24_code
def yX4_about : MethodName := ⟨RX4, "about", "(II)I"⟩
abbrev cX4_same : ByteArray := prog_1_method_25_code
def yX4_same : MethodName := ⟨RX4, "same", "(II)I"⟩
abbrev cX4_compare : ByteArray := prog_1_method_26_code
def yX4_compare : MethodName := ⟨RX4, "compare", "(II)I"⟩
abbrev cX4_clear : ByteArray := prog_1_method_27_code
def yX4_clear : MethodName := ⟨RX4, "clear", "()I"⟩
abbrev cX4_tell : ByteArray := prog_1_method_28_code
def yX4_tell : MethodName := ⟨RX4, "tell", "(II)I"⟩
abbrev cX4_done : ByteArray := prog_1_method_29_code
def yX4_done : MethodName := ⟨RX4, "done", "(I)I"⟩
abbrev cX4_stop : ByteArray := prog_1_method_30_code
def yX4_stop : MethodName := ⟨RX4, "stop", "(I)I"⟩
abbrev cX4_stopBeyond : ByteArray := prog_1_method_31_code
def yX4_stopBeyond : MethodName := ⟨RX4, "stopBeyond", "(I)I"⟩
abbrev cX4_arrayOf : ByteArray := prog_1_method_32_code
def yX4_arrayOf : MethodName := ⟨RX4, "arrayOf", "(I)LArrayMaker$MadeArray;"⟩
abbrev cX4_hasRoom : ByteArray := prog_1_method_33_code
def yX4_hasRoom : MethodName := ⟨RX4, "hasRoom", "(II)Z"⟩
abbrev cX4_whyNotMade : ByteArray := prog_1_method_34_code
def yX4_whyNotMade : MethodName := ⟨RX4, "whyNotMade", "(I)I"⟩
abbrev cX4_whyNoRow : ByteArray := prog_1_method_35_code
def yX4_whyNoRow : MethodName := ⟨RX4, "whyNoRow", "(LArrayMaker$MadeArray;)I"⟩
abbrev cX4_whyNotDeep : ByteArray := prog_1_method_36_code
def yX4_whyNotDeep : MethodName := ⟨RX4, "whyNotDeep", "(LArrayMaker$MadeArray;)I"⟩
abbrev cX4_whyNotFlat : ByteArray := prog_1_method_37_code
def yX4_whyNotFlat : MethodName := ⟨RX4, "whyNotFlat", "(LArrayMaker$MadeArray;)I"⟩
abbrev cX4_whyNoTableRow : ByteArray := prog_1_method_38_code
def yX4_whyNoTableRow : MethodName := ⟨RX4, "whyNoTableRow", "(LArrayMaker$MadeArray;I)I"⟩
abbrev cX4_whyNotJoined : ByteArray := prog_1_method_39_code
def yX4_whyNotJoined : MethodName := ⟨RX4, "whyNotJoined", "(LArrayMaker$MadeArray;LArrayMaker$MadeArray;)I"⟩
abbrev cX4_nextArray : ByteArray := prog_1_method_40_code
def yX4_nextArray : MethodName := ⟨RX4, "nextArray", "(I)LArrayMaker$MadeArray;"⟩
abbrev cX4_nextArrayIn : ByteArray := prog_1_method_41_code
def yX4_nextArrayIn : MethodName := ⟨RX4, "nextArrayIn", "(LArrayMaker$Shape;I)LArrayMaker$MadeArray;"⟩
abbrev cX4_addOwnRow : ByteArray := prog_1_method_42_code
def yX4_addOwnRow : MethodName := ⟨RX4, "addOwnRow", "(LArrayMaker$MadeArray;)V"⟩
abbrev cX4_addTableRows : ByteArray := prog_1_method_43_code
def yX4_addTableRows : MethodName := ⟨RX4, "addTableRows", "(LArrayMaker$MadeArray;)V"⟩
abbrev cX4_findTurned : ByteArray := prog_1_method_44_code
def yX4_findTurned : MethodName := ⟨RX4, "findTurned", "(LArrayMaker$MadeArray;)V"⟩
abbrev cX4_findCut : ByteArray := prog_1_method_45_code
def yX4_findCut : MethodName := ⟨RX4, "findCut", "(LArrayMaker$MadeArray;)I"⟩
abbrev cX4_copySources : ByteArray := prog_1_method_46_code
def yX4_copySources : MethodName := ⟨RX4, "copySources", "(LArrayMaker$MadeArray;)V"⟩
abbrev cX4_cellOf : ByteArray := prog_1_method_47_code
def yX4_cellOf : MethodName := ⟨RX4, "cellOf", "(LArrayMaker$MadeArray;III)I"⟩
abbrev cX4_tableCellOf : ByteArray := prog_1_method_48_code
def yX4_tableCellOf : MethodName := ⟨RX4, "tableCellOf", "(LArrayMaker$MadeArray;II)I"⟩
abbrev cX4_itemsOf : ByteArray := prog_1_method_49_code
def yX4_itemsOf : MethodName := ⟨RX4, "itemsOf", "(LArrayMaker$MadeArray;)I"⟩
abbrev cX4_haveSameRows : ByteArray := prog_1_method_50_code
def yX4_haveSameRows : MethodName := ⟨RX4, "haveSameRows", "(LArrayMaker$MadeArray;LArrayMaker$MadeArray;)Z"⟩
abbrev cX4_joinCell : ByteArray := prog_1_method_51_code
def yX4_joinCell : MethodName := ⟨RX4, "joinCell", "(IIJI)Z"⟩
abbrev cX4_joined : ByteArray := prog_1_method_52_code
def yX4_joined : MethodName := ⟨RX4, "joined", "(JJI)J"⟩
abbrev cX4_fitted : ByteArray := prog_1_method_53_code
def yX4_fitted : MethodName := ⟨RX4, "fitted", "(IJ)J"⟩
def RX5 : String := "ArrayMakerModel"
def TX5 : u_T := fun k => match k with
  | 0 => ("ArrayMakerModel", "code", "I", false)
  | 1 => ("ArrayMakerModel", "which", "I", false)
  | 2 => ("ArrayMakerModel", "dimensions", "I", false)
  | 3 => ("ArrayMakerModel", "low", "[I", true)
  | 4 => ("ArrayMakerModel", "high", "[I", true)
  | 5 => ("ArrayMakerModel", "arrays", "I", false)
  | 6 => ("ArrayMakerModel", "kinds", "[I", true)
  | 7 => ("ArrayMakerModel", "ranks", "[I", true)
  | 8 => ("ArrayMakerModel", "lows", "[I", true)
  | 9 => ("ArrayMakerModel", "highs", "[I", true)
  | 10 => ("ArrayMakerModel", "rowOf", "[I", true)
  | 11 => ("ArrayMakerModel", "rows", "I", false)
  | 12 => ("ArrayMakerModel", "rowAt", "[I", true)
  | 13 => ("ArrayMakerModel", "rowSize", "[I", true)
  | 14 => ("ArrayMakerModel", "pooled", "I", false)
  | 15 => ("ArrayMakerModel", "pool", "[J", true)
  | 16 => ("ArrayMakerModel", "hasBox", "[Z", true)
  | 17 => ("ArrayMakerModel", "slots", "I", false)
  | 18 => ("ArrayMakerModel", "slot", "[I", true)
  | 19 => ("ArrayMakerModel", "lines", "I", false)
  | 20 => ("ArrayMakerModel", "lineI", "[I", true)
  | 21 => ("ArrayMakerModel", "lineJ", "[I", true)
  | 22 => ("ArrayMakerModel", "lineK", "[I", true)
  | 23 => ("ArrayMakerModel", "lineV", "[J", true)
  | _ => ("ArrayMakerModel", "beyond", "I", false)
def tyX5 : Nat → FieldType := fun k => match k with
  | 0 => .int
  | 1 => .int
  | 2 => .int
  | 3 => .array .int
  | 4 => .array .int
  | 5 => .int
  | 6 => .array .int
  | 7 => .array .int
  | 8 => .array .int
  | 9 => .array .int
  | 10 => .array .int
  | 11 => .int
  | 12 => .array .int
  | 13 => .array .int
  | 14 => .int
  | 15 => .array .long
  | 16 => .array .boolean
  | 17 => .int
  | 18 => .array .int
  | 19 => .int
  | 20 => .array .int
  | 21 => .array .int
  | 22 => .array .int
  | 23 => .array .long
  | _ => .int
abbrev wsX50 : List Cond := u_ws RX5 TX5 25
theorem nmX5 : ∀ a, a < 25 → ∀ b, b < 25 → a ≠ b → (TX5 a).2.1 ≠ (TX5 b).2.1 := by decide +kernel
theorem tyX5_ok : ∀ k, k < 25 → parseFieldDescriptor (TX5 k).2.2.1 = some (tyX5 k) := by decide +kernel
abbrev cX5_init : ByteArray := prog_7_method_1_code
def yX5_init : MethodName := ⟨RX5, "<init>", "()V"⟩
abbrev cX5_within : ByteArray := prog_7_method_3_code
def yX5_within : MethodName := ⟨RX5, "within", "(JJJ)Z"⟩
abbrev cX5_code : ByteArray := prog_7_method_4_code
def yX5_code : MethodName := ⟨RX5, "code", "()I"⟩
abbrev cX5_which : ByteArray := prog_7_method_5_code
def yX5_which : MethodName := ⟨RX5, "which", "()I"⟩
abbrev cX5_no : ByteArray := prog_7_method_6_code
def yX5_no : MethodName := ⟨RX5, "no", "(I)I"⟩
abbrev cX5_noItem : ByteArray := prog_7_method_7_code
def yX5_noItem : MethodName := ⟨RX5, "noItem", "(I)I"⟩
abbrev cX5_yes : ByteArray := prog_7_method_8_code
def yX5_yes : MethodName := ⟨RX5, "yes", "(I)I"⟩
abbrev cX5_range : ByteArray := prog_7_method_9_code
def yX5_range : MethodName := ⟨RX5, "range", "(II)I"⟩
abbrev cX5_shapeless : ByteArray := prog_7_method_10_code
def yX5_shapeless : MethodName := ⟨RX5, "shapeless", "()I"⟩
abbrev cX5_length : ByteArray := prog_7_method_11_code
def yX5_length : MethodName := ⟨RX5, "length", "(II)J"⟩
abbrev cX5_shapeItems : ByteArray := prog_7_method_12_code
def yX5_shapeItems : MethodName := ⟨RX5, "shapeItems", "()I"⟩
abbrev cX5_lengthOf : ByteArray := prog_7_method_13_code
def yX5_lengthOf : MethodName := ⟨RX5, "lengthOf", "(II)J"⟩
abbrev cX5_newRow : ByteArray := prog_7_method_14_code
def yX5_newRow : MethodName := ⟨RX5, "newRow", "(I)I"⟩
abbrev cX5_as : ByteArray := prog_7_method_15_code
def yX5_as : MethodName := ⟨RX5, "as", "(IJ)J"⟩
abbrev cX5_isArray : ByteArray := prog_7_method_16_code
def yX5_isArray : MethodName := ⟨RX5, "isArray", "(I)Z"⟩
abbrev cX5_newArray : ByteArray := prog_7_method_17_code
def yX5_newArray : MethodName := ⟨RX5, "newArray", "(II)I"⟩
abbrev cX5_newTable : ByteArray := prog_7_method_18_code
def yX5_newTable : MethodName := ⟨RX5, "newTable", "(I)V"⟩
abbrev cX5_make : ByteArray := prog_7_method_19_code
def yX5_make : MethodName := ⟨RX5, "make", "(I)I"⟩
abbrev cX5_raw : ByteArray := prog_7_method_20_code
def yX5_raw : MethodName := ⟨RX5, "raw", "(II)I"⟩
abbrev cX5_wants : ByteArray := prog_7_method_21_code
def yX5_wants : MethodName := ⟨RX5, "wants", "(I)I"⟩
abbrev cX5_see : ByteArray := prog_7_method_22_code
def yX5_see : MethodName := ⟨RX5, "see", "(I)I"⟩
abbrev cX5_copy : ByteArray := prog_7_method_23_code
def yX5_copy : MethodName := ⟨RX5, "copy", "(II)V"⟩
abbrev cX5_turn : ByteArray := prog_7_method_24_code
def yX5_turn : MethodName := ⟨RX5, "turn", "(I)I"⟩
abbrev cX5_placeOf : ByteArray := prog_7_method_25_code
def yX5_placeOf : MethodName := ⟨RX5, "placeOf", "(IIII)I"⟩
abbrev cX5_index : ByteArray := prog_7_method_26_code
def yX5_index : MethodName := ⟨RX5, "index", "(II)I"⟩
abbrev cX5_cut : ByteArray := prog_7_method_27_code
def yX5_cut : MethodName := ⟨RX5, "cut", "(I)I"⟩
abbrev cX5_deep : ByteArray := prog_7_method_28_code
def yX5_deep : MethodName := ⟨RX5, "deep", "(I)I"⟩
abbrev cX5_tableRows : ByteArray := prog_7_method_29_code
def yX5_tableRows : MethodName := ⟨RX5, "tableRows", "(I)I"⟩
abbrev cX5_flat : ByteArray := prog_7_method_30_code
def yX5_flat : MethodName := ⟨RX5, "flat", "(I)I"⟩
abbrev cX5_wantsRow : ByteArray := prog_7_method_31_code
def yX5_wantsRow : MethodName := ⟨RX5, "wantsRow", "(II)I"⟩
abbrev cX5_slotOf : ByteArray := prog_7_method_32_code
def yX5_slotOf : MethodName := ⟨RX5, "slotOf", "(II)I"⟩
abbrev cX5_ragged : ByteArray := prog_7_method_33_code
def yX5_ragged : MethodName := ⟨RX5, "ragged", "(III)I"⟩
abbrev cX5_without : ByteArray := prog_7_method_34_code
def yX5_without : MethodName := ⟨RX5, "without", "(II)I"⟩
abbrev cX5_tie : ByteArray := prog_7_method_35_code
def yX5_tie : MethodName := ⟨RX5, "tie", "(IIII)I"⟩
abbrev cX5_find : ByteArray := prog_7_method_36_code
def yX5_find : MethodName := ⟨RX5, "find", "(IIII)I"⟩
abbrev cX5_get : ByteArray := prog_7_method_37_code
def yX5_get : MethodName := ⟨RX5, "get", "(IIII)J"⟩
abbrev cX5_lay : ByteArray := prog_7_method_38_code
def yX5_lay : MethodName := ⟨RX5, "lay", "(IIJ)V"⟩
abbrev cX5_put : ByteArray := prog_7_method_39_code
def yX5_put : MethodName := ⟨RX5, "put", "(IIIIJ)I"⟩
abbrev cX5_empty : ByteArray := prog_7_method_40_code
def yX5_empty : MethodName := ⟨RX5, "empty", "(IIII)I"⟩
abbrev cX5_pair : ByteArray := prog_7_method_41_code
def yX5_pair : MethodName := ⟨RX5, "pair", "(IIIJ)I"⟩
abbrev cX5_joins : ByteArray := prog_7_method_42_code
def yX5_joins : MethodName := ⟨RX5, "joins", "(IIIJ)Z"⟩
abbrev cX5_gather : ByteArray := prog_7_method_43_code
def yX5_gather : MethodName := ⟨RX5, "gather", "(II)I"⟩
abbrev cX5_join : ByteArray := prog_7_method_44_code
def yX5_join : MethodName := ⟨RX5, "join", "(III)I"⟩
abbrev cX5_sumOf : ByteArray := prog_7_method_45_code
def yX5_sumOf : MethodName := ⟨RX5, "sumOf", "(I)J"⟩
abbrev cX5_sum : ByteArray := prog_7_method_46_code
def yX5_sum : MethodName := ⟨RX5, "sum", "(I)J"⟩
abbrev cX5_mean : ByteArray := prog_7_method_47_code
def yX5_mean : MethodName := ⟨RX5, "mean", "(I)J"⟩
abbrev cX5_about : ByteArray := prog_7_method_48_code
def yX5_about : MethodName := ⟨RX5, "about", "(II)I"⟩
abbrev cX5_same : ByteArray := prog_7_method_49_code
def yX5_same : MethodName := ⟨RX5, "same", "(II)I"⟩
abbrev cX5_compare : ByteArray := prog_7_method_50_code
def yX5_compare : MethodName := ⟨RX5, "compare", "(II)I"⟩
abbrev cX5_clear : ByteArray := prog_7_method_51_code
def yX5_clear : MethodName := ⟨RX5, "clear", "()I"⟩
def RJx8e188 : String := "java/lang/Cloneable"
def TJx8e188 : u_T := fun k => match k with
  | _ => ("", "", "", false)
def tyJx8e188 : Nat → FieldType := fun k => match k with
  | _ => .int
abbrev wsJx8e1880 : List Cond := u_ws RJx8e188 TJx8e188 0
theorem nmJx8e188 : ∀ a, a < 0 → ∀ b, b < 0 → a ≠ b → (TJx8e188 a).2.1 ≠ (TJx8e188 b).2.1 := by decide +kernel
theorem tyJx8e188_ok : ∀ k, k < 0 → parseFieldDescriptor (TJx8e188 k).2.2.1 = some (tyJx8e188 k) := by decide +kernel
def RJ6 : String := "java/lang/Integer"
def TJ6 : u_T := fun k => match k with
  | _ => ("", "", "", false)
def tyJ6 : Nat → FieldType := fun k => match k with
  | _ => .int
abbrev wsJ60 : List Cond := u_ws RJ6 TJ6 0
theorem nmJ6 : ∀ a, a < 0 → ∀ b, b < 0 → a ≠ b → (TJ6 a).2.1 ≠ (TJ6 b).2.1 := by decide +kernel
theorem tyJ6_ok : ∀ k, k < 0 → parseFieldDescriptor (TJ6 k).2.2.1 = some (tyJ6 k) := by decide +kernel
abbrev cJ6_compare_7cf53 : ByteArray := prog_9_method_40_code
def yJ6_compare_7cf53 : MethodName := ⟨RJ6, "compare", "(II)I"⟩
def RJ13 : String := "java/lang/Long"
def TJ13 : u_T := fun k => match k with
  | _ => ("", "", "", false)
def tyJ13 : Nat → FieldType := fun k => match k with
  | _ => .int
abbrev wsJ130 : List Cond := u_ws RJ13 TJ13 0
theorem nmJ13 : ∀ a, a < 0 → ∀ b, b < 0 → a ≠ b → (TJ13 a).2.1 ≠ (TJ13 b).2.1 := by decide +kernel
theorem tyJ13_ok : ∀ k, k < 0 → parseFieldDescriptor (TJ13 k).2.2.1 = some (tyJ13 k) := by decide +kernel
abbrev cJ13_compare_74951 : ByteArray := prog_10_method_42_code
def yJ13_compare_74951 : MethodName := ⟨RJ13, "compare", "(JJ)I"⟩
def RJ9 : String := "java/lang/Math"
def TJ9 : u_T := fun k => match k with
  | _ => ("", "", "", false)
def tyJ9 : Nat → FieldType := fun k => match k with
  | _ => .int
abbrev wsJ90 : List Cond := u_ws RJ9 TJ9 0
theorem nmJ9 : ∀ a, a < 0 → ∀ b, b < 0 → a ≠ b → (TJ9 a).2.1 ≠ (TJ9 b).2.1 := by decide +kernel
theorem tyJ9_ok : ∀ k, k < 0 → parseFieldDescriptor (TJ9 k).2.2.1 = some (tyJ9 k) := by decide +kernel
abbrev cJ9_max_7cf53 : ByteArray := prog_11_method_65_code
def yJ9_max_7cf53 : MethodName := ⟨RJ9, "max", "(II)I"⟩
abbrev cJ9_max_f86c9 : ByteArray := prog_11_method_66_code
def yJ9_max_f86c9 : MethodName := ⟨RJ9, "max", "(JJ)J"⟩
abbrev cJ9_min_7cf53 : ByteArray := prog_11_method_69_code
def yJ9_min_7cf53 : MethodName := ⟨RJ9, "min", "(II)I"⟩
abbrev cJ9_min_f86c9 : ByteArray := prog_11_method_70_code
def yJ9_min_f86c9 : MethodName := ⟨RJ9, "min", "(JJ)J"⟩
def RJ10 : String := "java/lang/System"
def TJ10 : u_T := fun k => match k with
  | _ => ("", "", "", false)
def tyJ10 : Nat → FieldType := fun k => match k with
  | _ => .int
abbrev wsJ100 : List Cond := u_ws RJ10 TJ10 0
theorem nmJ10 : ∀ a, a < 0 → ∀ b, b < 0 → a ≠ b → (TJ10 a).2.1 ≠ (TJ10 b).2.1 := by decide +kernel
theorem tyJ10_ok : ∀ k, k < 0 → parseFieldDescriptor (TJ10 k).2.2.1 = some (tyJ10 k) := by decide +kernel
def RJ7 : String := "java/util/Arrays"
def TJ7 : u_T := fun k => match k with
  | _ => ("", "", "", false)
def tyJ7 : Nat → FieldType := fun k => match k with
  | _ => .int
abbrev wsJ70 : List Cond := u_ws RJ7 TJ7 0
theorem nmJ7 : ∀ a, a < 0 → ∀ b, b < 0 → a ≠ b → (TJ7 a).2.1 ≠ (TJ7 b).2.1 := by decide +kernel
theorem tyJ7_ok : ∀ k, k < 0 → parseFieldDescriptor (TJ7 k).2.2.1 = some (tyJ7 k) := by decide +kernel
abbrev cJ7_copyOf_59c91 : ByteArray := prog_13_method_123_code
def yJ7_copyOf_59c91 : MethodName := ⟨RJ7, "copyOf", "([II)[I"⟩
abbrev cJ7_copyOf_c38d5 : ByteArray := prog_13_method_124_code
def yJ7_copyOf_c38d5 : MethodName := ⟨RJ7, "copyOf", "([JI)[J"⟩
def RL : String := "ArrayMakerLaw"
abbrev cL_law : ByteArray := code
def yL_law : MethodName := ⟨RL, "law", "([I)Z"⟩
def wsL_law_r1 : List Cond := [Cond.classLink RL 7 RX4, Cond.instantiable RX4 8, Cond.initialized RX4, Cond.classLink RL 10 RX5, Cond.instantiable RX5 25, Cond.initialized RX5, Cond.constantLong RL 79 (4294967295), Cond.methodLink RL 9 yX4_init, Cond.instanceMethod yX4_init, Cond.code yX4_init cX4_init 2 none, Cond.methodLink RX4 3 objectInit, Cond.instanceMethod objectInit, Cond.code objectInit ⟨#[0xb1]⟩ 1 none, Cond.classLink RX4 9 RX2, Cond.instantiable RX2 3, Cond.initialized RX2, Cond.fieldLink RX4 12 "ArrayMaker" "shape" "LArrayMaker$Shape;", Cond.classLink RX4 16 RX0, Cond.instantiable RX0 5, Cond.initialized RX0, Cond.fieldLink RX4 19 "ArrayMaker" "list" "LArrayMaker$Lines;", Cond.classLink RX4 23 RX3, Cond.instantiable RX3 6, Cond.initialized RX3]
def wsL_law_r2 : List Cond := [Cond.fieldLink RX4 26 "ArrayMaker" "store" "LArrayMaker$Store;", Cond.classLink RX4 30 RX1, Cond.fieldLink RX4 32 "ArrayMaker" "arrays" "[LArrayMaker$MadeArray;", Cond.arrayClass .int, Cond.fieldLink RX4 36 "ArrayMaker" "sources" "[I", Cond.fieldLink RX4 40 "ArrayMaker" "made" "I", Cond.fieldLink RX4 44 "ArrayMaker" "code" "I", Cond.fieldLink RX4 47 "ArrayMaker" "which" "I", Cond.instantiable RX1 4, Cond.initialized RX1, Cond.instanceMethod yX2_init, Cond.code yX2_init cX2_init 1 none, Cond.methodLink RX2 3 objectInit, Cond.fieldLink RX2 9 "ArrayMaker$Shape" "low" "[I", Cond.fieldLink RX2 15 "ArrayMaker$Shape" "high" "[I", Cond.instanceMethod yX0_init, Cond.code yX0_init cX0_init 1 none, Cond.methodLink RX0 3 objectInit, Cond.fieldLink RX0 9 "ArrayMaker$Lines" "i" "[I", Cond.fieldLink RX0 15 "ArrayMaker$Lines" "j" "[I", Cond.fieldLink RX0 18 "ArrayMaker$Lines" "k" "[I", Cond.arrayClass .long, Cond.fieldLink RX0 21 "ArrayMaker$Lines" "v" "[J", Cond.instanceMethod yX3_init]
def wsL_law_r3 : List Cond := [Cond.code yX3_init cX3_init 1 none, Cond.methodLink RX3 3 objectInit, Cond.fieldLink RX3 9 "ArrayMaker$Store" "numbers" "[J", Cond.arrayClass .boolean, Cond.fieldLink RX3 15 "ArrayMaker$Store" "filled" "[Z", Cond.fieldLink RX3 19 "ArrayMaker$Store" "starts" "[I", Cond.fieldLink RX3 23 "ArrayMaker$Store" "lengths" "[I", Cond.instanceMethod yX1_init, Cond.code yX1_init cX1_init 1 none, Cond.methodLink RX1 3 objectInit, Cond.classLink RX1 9 RX2, Cond.fieldLink RX1 12 "ArrayMaker$MadeArray" "shape" "LArrayMaker$Shape;", Cond.fieldLink RX1 18 "ArrayMaker$MadeArray" "row" "I", Cond.fieldLink RX1 22 "ArrayMaker$MadeArray" "rows" "[I", Cond.methodLink RL 12 yX5_init, Cond.instanceMethod yX5_init, Cond.code yX5_init cX5_init 1 none, Cond.methodLink RX5 1 objectInit, Cond.fieldLink RX5 9 "ArrayMakerModel" "which" "I", Cond.fieldLink RX5 13 "ArrayMakerModel" "low" "[I", Cond.fieldLink RX5 17 "ArrayMakerModel" "high" "[I", Cond.fieldLink RX5 20 "ArrayMakerModel" "kinds" "[I", Cond.fieldLink RX5 23 "ArrayMakerModel" "ranks" "[I", Cond.fieldLink RX5 26 "ArrayMakerModel" "lows" "[I"]
def wsL_law_r4 : List Cond := [Cond.fieldLink RX5 29 "ArrayMakerModel" "highs" "[I", Cond.fieldLink RX5 32 "ArrayMakerModel" "rowOf" "[I", Cond.fieldLink RX5 35 "ArrayMakerModel" "rowAt" "[I", Cond.fieldLink RX5 38 "ArrayMakerModel" "rowSize" "[I", Cond.constant RX5 41 (300000), Cond.fieldLink RX5 42 "ArrayMakerModel" "pool" "[J", Cond.fieldLink RX5 46 "ArrayMakerModel" "hasBox" "[Z", Cond.fieldLink RX5 50 "ArrayMakerModel" "slot" "[I", Cond.fieldLink RX5 53 "ArrayMakerModel" "lineI" "[I", Cond.fieldLink RX5 56 "ArrayMakerModel" "lineJ" "[I", Cond.fieldLink RX5 59 "ArrayMakerModel" "lineK" "[I", Cond.fieldLink RX5 62 "ArrayMakerModel" "lineV" "[J", Cond.methodLink RL 13 yX4_code, Cond.instanceMethod yX4_code, Cond.selects RX4 yX4_code yX4_code, Cond.code yX4_code cX4_code 1 (some .int), Cond.methodLink RL 17 yX5_code, Cond.instanceMethod yX5_code, Cond.selects RX5 yX5_code yX5_code, Cond.code yX5_code cX5_code 1 (some .int), Cond.fieldLink RX5 65 "ArrayMakerModel" "code" "I", Cond.methodLink RL 18 yX4_which, Cond.instanceMethod yX4_which, Cond.selects RX4 yX4_which yX4_which]
def wsL_law_r5 : List Cond := [Cond.code yX4_which cX4_which 1 (some .int), Cond.methodLink RL 21 yX5_which, Cond.instanceMethod yX5_which, Cond.selects RX5 yX5_which yX5_which, Cond.code yX5_which cX5_which 1 (some .int), Cond.methodLink RL 22 yX4_range, Cond.instanceMethod yX4_range, Cond.selects RX4 yX4_range yX4_range, Cond.code yX4_range cX4_range 3 (some .int), Cond.fieldLink RX4 51 "ArrayMaker$Shape" "count" "I", Cond.methodLink RX4 54 yX4_stop, Cond.instanceMethod yX4_stop, Cond.selects RX4 yX4_stop yX4_stop, Cond.code yX4_stop cX4_stop 2 (some .int), Cond.methodLink RX4 205 yX4_tell, Cond.instanceMethod yX4_tell, Cond.selects RX4 yX4_tell yX4_tell, Cond.code yX4_tell cX4_tell 3 (some .int), Cond.methodLink RX4 58 yX2_add, Cond.instanceMethod yX2_add, Cond.selects RX2 yX2_add yX2_add, Cond.code yX2_add cX2_add 3 none, Cond.fieldLink RX2 18 "ArrayMaker$Shape" "count" "I", Cond.methodLink RX4 62 yX4_done]
def wsL_law_r6 : List Cond := [Cond.instanceMethod yX4_done, Cond.selects RX4 yX4_done yX4_done, Cond.code yX4_done cX4_done 2 (some .int), Cond.methodLink RL 26 yX5_range, Cond.instanceMethod yX5_range, Cond.selects RX5 yX5_range yX5_range, Cond.code yX5_range cX5_range 3 (some .int), Cond.fieldLink RX5 72 "ArrayMakerModel" "dimensions" "I", Cond.methodLink RX5 68 yX5_no, Cond.instanceMethod yX5_no, Cond.selects RX5 yX5_no yX5_no, Cond.code yX5_no cX5_no 2 (some .int), Cond.methodLink RX5 75 yX5_yes, Cond.instanceMethod yX5_yes, Cond.selects RX5 yX5_yes yX5_yes, Cond.code yX5_yes cX5_yes 2 (some .int), Cond.methodLink RL 27 yX4_shapeless, Cond.instanceMethod yX4_shapeless, Cond.selects RX4 yX4_shapeless yX4_shapeless, Cond.code yX4_shapeless cX4_shapeless 2 (some .int), Cond.methodLink RL 30 yX5_shapeless, Cond.instanceMethod yX5_shapeless, Cond.selects RX5 yX5_shapeless yX5_shapeless, Cond.code yX5_shapeless cX5_shapeless 2 (some .int)]
def wsL_law_r7 : List Cond := [Cond.methodLink RL 31 yX4_make, Cond.instanceMethod yX4_make, Cond.selects RX4 yX4_make yX4_make, Cond.code yX4_make cX4_make 4 (some .int), Cond.constant RX4 65 (-2000000001), Cond.methodLink RX4 66 yX4_whyNotMade, Cond.instanceMethod yX4_whyNotMade, Cond.selects RX4 yX4_whyNotMade yX4_whyNotMade, Cond.code yX4_whyNotMade cX4_whyNotMade 4 (some .int), Cond.constantLong RX4 238 (500), Cond.methodLink RX4 96 yX2_items, Cond.instanceMethod yX2_items, Cond.selects RX2 yX2_items yX2_items, Cond.code yX2_items cX2_items 4 (some .int), Cond.constantLong RX2 32 (501), Cond.methodLink RX2 34 Lib.MathLoose.min_long.x, Cond.static Lib.MathLoose.min_long.x, Cond.initialized "java/lang/Math", Cond.code Lib.MathLoose.min_long.x Lib.MathLoose.min_long.code 4 (some .long), Cond.methodLink RX2 37 yX2_length, Cond.instanceMethod yX2_length, Cond.selects RX2 yX2_length yX2_length, Cond.code yX2_length cX2_length 2 (some .long), Cond.methodLink RX2 26 Lib.MathLoose.max_long.x]
def wsL_law_r8 : List Cond := [Cond.static Lib.MathLoose.max_long.x, Cond.code Lib.MathLoose.max_long.x Lib.MathLoose.max_long.code 4 (some .long), Cond.methodLink RX4 235 yX2_length, Cond.methodLink RX4 80 yX4_hasRoom, Cond.instanceMethod yX4_hasRoom, Cond.selects RX4 yX4_hasRoom yX4_hasRoom, Cond.code yX4_hasRoom cX4_hasRoom 3 (some .boolean), Cond.methodLink RX4 147 yX3_reserve, Cond.instanceMethod yX3_reserve, Cond.selects RX3 yX3_reserve yX3_reserve, Cond.code yX3_reserve cX3_reserve 3 (some .boolean), Cond.fieldLink RX3 26 "ArrayMaker$Store" "rowCount" "I", Cond.constant RX3 30 (63200), Cond.fieldLink RX3 31 "ArrayMaker$Store" "cellCount" "I", Cond.methodLink RX3 34 yX3_growRows, Cond.instanceMethod yX3_growRows, Cond.selects RX3 yX3_growRows yX3_growRows, Cond.code yX3_growRows cX3_growRows 3 none, Cond.methodLink RX3 41 Lib.Math.max.name, Cond.static Lib.Math.max.name, Cond.code Lib.Math.max.name Lib.Math.max.code 2 (some .int), Cond.methodLink RX3 47 yJ7_copyOf_59c91, Cond.static yJ7_copyOf_59c91, Cond.initialized RJ7]
def wsL_law_r9 : List Cond := [Cond.code yJ7_copyOf_59c91 cJ7_copyOf_59c91 3 (some (.array .int)), Cond.methodLink RJ7 316 ⟨"[I", "clone", "()Ljava/lang/Object;"⟩, Cond.sameMethod "[I" "java/lang/Object" "clone" "()Ljava/lang/Object;", Cond.native ⟨"java/lang/Object", "clone", "()Ljava/lang/Object;"⟩, Cond.instanceMethod ⟨"java/lang/Object", "clone", "()Ljava/lang/Object;"⟩, Cond.selects "[I" ⟨"[I", "clone", "()Ljava/lang/Object;"⟩ ⟨"java/lang/Object", "clone", "()Ljava/lang/Object;"⟩, Cond.classLink RJ7 317 "[I", Cond.methodLink RJ7 304 Lib.Math.min.name, Cond.static Lib.Math.min.name, Cond.code Lib.Math.min.name Lib.Math.min.code 2 (some .int), Cond.methodLink RJ7 150 arraycopyName, Cond.native arraycopyName, Cond.static arraycopyName, Cond.initialized "java/lang/System", Cond.methodLink RX3 38 yX3_growCells, Cond.instanceMethod yX3_growCells, Cond.selects RX3 yX3_growCells yX3_growCells, Cond.code yX3_growCells cX3_growCells 3 none, Cond.methodLink RX3 53 yJ7_copyOf_c38d5, Cond.static yJ7_copyOf_c38d5, Cond.code yJ7_copyOf_c38d5 cJ7_copyOf_c38d5 3 (some (.array .long)), Cond.methodLink RJ7 319 ⟨"[J", "clone", "()Ljava/lang/Object;"⟩, Cond.sameMethod "[J" "java/lang/Object" "clone" "()Ljava/lang/Object;", Cond.selects "[J" ⟨"[J", "clone", "()Ljava/lang/Object;"⟩ ⟨"java/lang/Object", "clone", "()Ljava/lang/Object;"⟩]
def wsL_law_r10 : List Cond := [Cond.classLink RJ7 320 "[J", Cond.methodLink RX3 56 yX3_grown, Cond.static yX3_grown, Cond.code yX3_grown cX3_grown 4 (some (.array .boolean)), Cond.methodLink RX4 69 yX4_nextArrayIn, Cond.instanceMethod yX4_nextArrayIn, Cond.selects RX4 yX4_nextArrayIn yX4_nextArrayIn, Cond.code yX4_nextArrayIn cX4_nextArrayIn 4 (some (.object "ArrayMaker$MadeArray")), Cond.fieldLink RX4 88 "ArrayMaker$MadeArray" "shape" "LArrayMaker$Shape;", Cond.methodLink RX4 84 yX4_nextArray, Cond.instanceMethod yX4_nextArray, Cond.selects RX4 yX4_nextArray yX4_nextArray, Cond.code yX4_nextArray cX4_nextArray 3 (some (.object "ArrayMaker$MadeArray")), Cond.fieldLink RX4 106 "ArrayMaker$MadeArray" "kind" "I", Cond.fieldLink RX4 100 "ArrayMaker$MadeArray" "row" "I", Cond.methodLink RX4 240 yX2_addAll, Cond.instanceMethod yX2_addAll, Cond.selects RX2 yX2_addAll yX2_addAll, Cond.code yX2_addAll cX2_addAll 3 none, Cond.methodLink RX2 22 yX2_add, Cond.methodLink RX4 73 yX4_addTableRows, Cond.instanceMethod yX4_addTableRows, Cond.selects RX4 yX4_addTableRows yX4_addTableRows, Cond.code yX4_addTableRows cX4_addTableRows 5 none]
def wsL_law_r11 : List Cond := [Cond.fieldLink RX4 133 "ArrayMaker$MadeArray" "rows" "[I", Cond.methodLink RX4 130 yX1_rowCount, Cond.instanceMethod yX1_rowCount, Cond.selects RX1 yX1_rowCount yX1_rowCount, Cond.code yX1_rowCount cX1_rowCount 1 (some .int), Cond.methodLink RX1 26 yX2_length, Cond.methodLink RX4 154 yX3_addRow, Cond.instanceMethod yX3_addRow, Cond.selects RX3 yX3_addRow yX3_addRow, Cond.code yX3_addRow cX3_addRow 5 (some .int), Cond.methodLink RX4 77 yX4_addOwnRow, Cond.instanceMethod yX4_addOwnRow, Cond.selects RX4 yX4_addOwnRow yX4_addOwnRow, Cond.code yX4_addOwnRow cX4_addOwnRow 2 none, Cond.methodLink RL 35 yX5_make, Cond.instanceMethod yX5_make, Cond.selects RX5 yX5_make yX5_make, Cond.code yX5_make cX5_make 4 (some .int), Cond.constantLong RX5 114 (4), Cond.constant RX5 116 (-2000000001), Cond.constantLong RX5 82 (500), Cond.fieldLink RX5 98 "ArrayMakerModel" "arrays" "I", Cond.methodLink RX5 101 yX5_within, Cond.static yX5_within]
def wsL_law_r12 : List Cond := [Cond.code yX5_within cX5_within 6 (some .boolean), Cond.methodLink RX5 117 yX5_shapeItems, Cond.instanceMethod yX5_shapeItems, Cond.selects RX5 yX5_shapeItems yX5_shapeItems, Cond.code yX5_shapeItems cX5_shapeItems 7 (some .int), Cond.constantLong RX5 84 (501), Cond.methodLink RX5 78 yX5_length, Cond.static yX5_length, Cond.code yX5_length cX5_length 4 (some .long), Cond.methodLink RX5 121 yX5_newArray, Cond.instanceMethod yX5_newArray, Cond.selects RX5 yX5_newArray yX5_newArray, Cond.code yX5_newArray cX5_newArray 4 (some .int), Cond.methodLink RX5 125 yX5_newTable, Cond.instanceMethod yX5_newTable, Cond.selects RX5 yX5_newTable yX5_newTable, Cond.code yX5_newTable cX5_newTable 5 none, Cond.fieldLink RX5 105 "ArrayMakerModel" "slots" "I", Cond.methodLink RX5 108 yX5_lengthOf, Cond.instanceMethod yX5_lengthOf, Cond.selects RX5 yX5_lengthOf yX5_lengthOf, Cond.code yX5_lengthOf cX5_lengthOf 3 (some .long), Cond.methodLink RX5 111 yX5_newRow, Cond.instanceMethod yX5_newRow]
def wsL_law_r13 : List Cond := [Cond.selects RX5 yX5_newRow yX5_newRow, Cond.code yX5_newRow cX5_newRow 3 (some .int), Cond.fieldLink RX5 86 "ArrayMakerModel" "rows" "I", Cond.fieldLink RX5 89 "ArrayMakerModel" "pooled" "I", Cond.methodLink RL 36 yX4_raw, Cond.instanceMethod yX4_raw, Cond.selects RX4 yX4_raw yX4_raw, Cond.code yX4_raw cX4_raw 4 (some .int), Cond.methodLink RL 39 yX5_raw, Cond.instanceMethod yX5_raw, Cond.selects RX5 yX5_raw yX5_raw, Cond.code yX5_raw cX5_raw 3 (some .int), Cond.constantLong RX5 129 (3), Cond.methodLink RL 40 yX4_see, Cond.instanceMethod yX4_see, Cond.selects RX4 yX4_see yX4_see, Cond.code yX4_see cX4_see 4 (some .int), Cond.methodLink RX4 89 yX4_arrayOf, Cond.instanceMethod yX4_arrayOf, Cond.selects RX4 yX4_arrayOf yX4_arrayOf, Cond.code yX4_arrayOf cX4_arrayOf 2 (some (.object "ArrayMaker$MadeArray")), Cond.methodLink RX4 92 yX4_whyNoRow, Cond.instanceMethod yX4_whyNoRow, Cond.selects RX4 yX4_whyNoRow yX4_whyNoRow]
def wsL_law_r14 : List Cond := [Cond.code yX4_whyNoRow cX4_whyNoRow 2 (some .int), Cond.methodLink RX4 103 yX3_lengthOf, Cond.instanceMethod yX3_lengthOf, Cond.selects RX3 yX3_lengthOf yX3_lengthOf, Cond.code yX3_lengthOf cX3_lengthOf 2 (some .int), Cond.methodLink RL 43 yX5_see, Cond.instanceMethod yX5_see, Cond.selects RX5 yX5_see yX5_see, Cond.code yX5_see cX5_see 4 (some .int), Cond.methodLink RX5 135 yX5_wants, Cond.instanceMethod yX5_wants, Cond.selects RX5 yX5_wants yX5_wants, Cond.code yX5_wants cX5_wants 2 (some .int), Cond.methodLink RX5 131 yX5_isArray, Cond.instanceMethod yX5_isArray, Cond.selects RX5 yX5_isArray yX5_isArray, Cond.code yX5_isArray cX5_isArray 2 (some .boolean), Cond.methodLink RL 44 yX4_turn, Cond.instanceMethod yX4_turn, Cond.selects RX4 yX4_turn yX4_turn, Cond.code yX4_turn cX4_turn 5 (some .int), Cond.methodLink RX4 109 yX4_findTurned, Cond.instanceMethod yX4_findTurned, Cond.selects RX4 yX4_findTurned yX4_findTurned]
def wsL_law_r15 : List Cond := [Cond.code yX4_findTurned cX4_findTurned 10 none, Cond.methodLink RX4 127 yX3_startOf, Cond.instanceMethod yX3_startOf, Cond.selects RX3 yX3_startOf yX3_startOf, Cond.code yX3_startOf cX3_startOf 2 (some .int), Cond.methodLink RX4 112 yX2_swapFirstTwo, Cond.instanceMethod yX2_swapFirstTwo, Cond.selects RX2 yX2_swapFirstTwo yX2_swapFirstTwo, Cond.code yX2_swapFirstTwo cX2_swapFirstTwo 3 none, Cond.methodLink RX4 115 yX4_copySources, Cond.instanceMethod yX4_copySources, Cond.selects RX4 yX4_copySources yX4_copySources, Cond.code yX4_copySources cX4_copySources 4 none, Cond.methodLink RX4 136 yX3_copyCells, Cond.instanceMethod yX3_copyCells, Cond.selects RX3 yX3_copyCells yX3_copyCells, Cond.code yX3_copyCells cX3_copyCells 5 none, Cond.methodLink RL 47 yX5_turn, Cond.instanceMethod yX5_turn, Cond.selects RX5 yX5_turn yX5_turn, Cond.code yX5_turn cX5_turn 12 (some .int), Cond.methodLink RX5 138 yX5_copy, Cond.instanceMethod yX5_copy, Cond.selects RX5 yX5_copy yX5_copy]
def wsL_law_r16 : List Cond := [Cond.code yX5_copy cX5_copy 3 none, Cond.methodLink RL 48 yX4_cut, Cond.instanceMethod yX4_cut, Cond.selects RX4 yX4_cut yX4_cut, Cond.code yX4_cut cX4_cut 7 (some .int), Cond.methodLink RX4 118 yX4_findCut, Cond.instanceMethod yX4_findCut, Cond.selects RX4 yX4_findCut yX4_findCut, Cond.code yX4_findCut cX4_findCut 11 (some .int), Cond.fieldLink RX4 219 "ArrayMaker$Shape" "low" "[I", Cond.methodLink RX4 244 yX2_firstBeyond, Cond.instanceMethod yX2_firstBeyond, Cond.selects RX2 yX2_firstBeyond yX2_firstBeyond, Cond.code yX2_firstBeyond cX2_firstBeyond 5 (some .int), Cond.methodLink RX2 41 yX2_indexOf, Cond.static yX2_indexOf, Cond.code yX2_indexOf cX2_indexOf 4 (some .int), Cond.methodLink RX2 45 yX2_holds, Cond.instanceMethod yX2_holds, Cond.selects RX2 yX2_holds yX2_holds, Cond.code yX2_holds cX2_holds 3 (some .boolean), Cond.methodLink RX4 248 yX2_place, Cond.instanceMethod yX2_place, Cond.selects RX2 yX2_place yX2_place]
def wsL_law_r17 : List Cond := [Cond.code yX2_place cX2_place 6 (some .int), Cond.methodLink RX2 49 yX2_offset, Cond.instanceMethod yX2_offset, Cond.selects RX2 yX2_offset yX2_offset, Cond.code yX2_offset cX2_offset 3 (some .int), Cond.methodLink RX4 121 yX4_stopBeyond, Cond.instanceMethod yX4_stopBeyond, Cond.selects RX4 yX4_stopBeyond yX4_stopBeyond, Cond.code yX4_stopBeyond cX4_stopBeyond 2 (some .int), Cond.methodLink RL 51 yX5_cut, Cond.instanceMethod yX5_cut, Cond.selects RX5 yX5_cut yX5_cut, Cond.code yX5_cut cX5_cut 9 (some .int), Cond.fieldLink RX5 142 "ArrayMakerModel" "beyond" "I", Cond.methodLink RX5 145 yX5_index, Cond.static yX5_index, Cond.code yX5_index cX5_index 2 (some .int), Cond.methodLink RX5 148 yX5_placeOf, Cond.instanceMethod yX5_placeOf, Cond.selects RX5 yX5_placeOf yX5_placeOf, Cond.code yX5_placeOf cX5_placeOf 9 (some .int), Cond.methodLink RX5 152 yX5_noItem, Cond.instanceMethod yX5_noItem, Cond.selects RX5 yX5_noItem yX5_noItem]
def wsL_law_r18 : List Cond := [Cond.code yX5_noItem cX5_noItem 2 (some .int), Cond.methodLink RL 52 yX4_deep, Cond.instanceMethod yX4_deep, Cond.selects RX4 yX4_deep yX4_deep, Cond.code yX4_deep cX4_deep 8 (some .int), Cond.methodLink RX4 124 yX4_whyNotDeep, Cond.instanceMethod yX4_whyNotDeep, Cond.selects RX4 yX4_whyNotDeep yX4_whyNotDeep, Cond.code yX4_whyNotDeep cX4_whyNotDeep 3 (some .int), Cond.methodLink RL 55 yX5_deep, Cond.instanceMethod yX5_deep, Cond.selects RX5 yX5_deep yX5_deep, Cond.code yX5_deep cX5_deep 6 (some .int), Cond.methodLink RL 56 yX4_flat, Cond.instanceMethod yX4_flat, Cond.selects RX4 yX4_flat yX4_flat, Cond.code yX4_flat cX4_flat 8 (some .int), Cond.methodLink RX4 140 yX4_whyNotFlat, Cond.instanceMethod yX4_whyNotFlat, Cond.selects RX4 yX4_whyNotFlat yX4_whyNotFlat, Cond.code yX4_whyNotFlat cX4_whyNotFlat 6 (some .int), Cond.methodLink RL 59 yX5_flat, Cond.instanceMethod yX5_flat, Cond.selects RX5 yX5_flat yX5_flat]
def wsL_law_r19 : List Cond := [Cond.code yX5_flat cX5_flat 9 (some .int), Cond.methodLink RX5 155 yX5_tableRows, Cond.instanceMethod yX5_tableRows, Cond.selects RX5 yX5_tableRows yX5_tableRows, Cond.code yX5_tableRows cX5_tableRows 2 (some .int), Cond.methodLink RL 60 yX4_ragged, Cond.instanceMethod yX4_ragged, Cond.selects RX4 yX4_ragged yX4_ragged, Cond.code yX4_ragged cX4_ragged 6 (some .int), Cond.methodLink RX4 143 yX4_whyNoTableRow, Cond.instanceMethod yX4_whyNoTableRow, Cond.selects RX4 yX4_whyNoTableRow yX4_whyNoTableRow, Cond.code yX4_whyNoTableRow cX4_whyNoTableRow 3 (some .int), Cond.methodLink RX4 158 yX2_holds, Cond.methodLink RX4 150 yX2_offset, Cond.methodLink RL 64 yX5_ragged, Cond.instanceMethod yX5_ragged, Cond.selects RX5 yX5_ragged yX5_ragged, Cond.code yX5_ragged cX5_ragged 5 (some .int), Cond.methodLink RX5 158 yX5_wantsRow, Cond.instanceMethod yX5_wantsRow, Cond.selects RX5 yX5_wantsRow yX5_wantsRow, Cond.code yX5_wantsRow cX5_wantsRow 3 (some .int), Cond.methodLink RX5 161 yX5_slotOf]
def wsL_law_r20 : List Cond := [Cond.instanceMethod yX5_slotOf, Cond.selects RX5 yX5_slotOf yX5_slotOf, Cond.code yX5_slotOf cX5_slotOf 3 (some .int), Cond.methodLink RL 65 yX4_without, Cond.instanceMethod yX4_without, Cond.selects RX4 yX4_without yX4_without, Cond.code yX4_without cX4_without 5 (some .int), Cond.methodLink RL 68 yX5_without, Cond.instanceMethod yX5_without, Cond.selects RX5 yX5_without yX5_without, Cond.code yX5_without cX5_without 4 (some .int), Cond.methodLink RL 69 yX4_tie, Cond.instanceMethod yX4_tie, Cond.selects RX4 yX4_tie yX4_tie, Cond.code yX4_tie cX4_tie 7 (some .int), Cond.methodLink RL 73 yX5_tie, Cond.instanceMethod yX5_tie, Cond.selects RX5 yX5_tie yX5_tie, Cond.code yX5_tie cX5_tie 5 (some .int), Cond.methodLink RL 74 yX4_get, Cond.instanceMethod yX4_get, Cond.selects RX4 yX4_get yX4_get, Cond.code yX4_get cX4_get 6 (some .long), Cond.fieldLink RX4 165 "ArrayMaker$Store" "filled" "[Z"]
def wsL_law_r21 : List Cond := [Cond.fieldLink RX4 169 "ArrayMaker$Store" "numbers" "[J", Cond.methodLink RX4 161 yX4_cellOf, Cond.instanceMethod yX4_cellOf, Cond.selects RX4 yX4_cellOf yX4_cellOf, Cond.code yX4_cellOf cX4_cellOf 6 (some .int), Cond.methodLink RX4 251 yX4_tableCellOf, Cond.instanceMethod yX4_tableCellOf, Cond.selects RX4 yX4_tableCellOf yX4_tableCellOf, Cond.code yX4_tableCellOf cX4_tableCellOf 7 (some .int), Cond.methodLink RL 78 yX5_get, Cond.instanceMethod yX5_get, Cond.selects RX5 yX5_get yX5_get, Cond.code yX5_get cX5_get 6 (some .long), Cond.methodLink RX5 164 yX5_find, Cond.instanceMethod yX5_find, Cond.selects RX5 yX5_find yX5_find, Cond.code yX5_find cX5_find 9 (some .int), Cond.methodLink RL 81 yX4_put, Cond.instanceMethod yX4_put, Cond.selects RX4 yX4_put yX4_put, Cond.code yX4_put cX4_put 9 (some .int), Cond.methodLink RX4 173 yX4_fitted, Cond.static yX4_fitted, Cond.code yX4_fitted cX4_fitted 3 (some .long)]
def wsL_law_r22 : List Cond := [Cond.methodLink RX4 177 yX3_fill, Cond.instanceMethod yX3_fill, Cond.selects RX3 yX3_fill yX3_fill, Cond.code yX3_fill cX3_fill 4 none, Cond.methodLink RL 85 yX5_put, Cond.instanceMethod yX5_put, Cond.selects RX5 yX5_put yX5_put, Cond.code yX5_put cX5_put 8 (some .int), Cond.methodLink RX5 171 yX5_lay, Cond.instanceMethod yX5_lay, Cond.selects RX5 yX5_lay yX5_lay, Cond.code yX5_lay cX5_lay 5 none, Cond.methodLink RX5 167 yX5_as, Cond.static yX5_as, Cond.code yX5_as cX5_as 5 (some .long), Cond.constantLong RX5 92 (255), Cond.constantLong RX5 94 (127), Cond.constantLong RX5 96 (256), Cond.methodLink RL 86 yX4_empty, Cond.instanceMethod yX4_empty, Cond.selects RX4 yX4_empty yX4_empty, Cond.code yX4_empty cX4_empty 7 (some .int), Cond.methodLink RX4 181 yX3_drain, Cond.instanceMethod yX3_drain]
def wsL_law_r23 : List Cond := [Cond.selects RX3 yX3_drain yX3_drain, Cond.code yX3_drain cX3_drain 2 none, Cond.methodLink RL 89 yX5_empty, Cond.instanceMethod yX5_empty, Cond.selects RX5 yX5_empty yX5_empty, Cond.code yX5_empty cX5_empty 6 (some .int), Cond.methodLink RL 90 yX4_pair, Cond.instanceMethod yX4_pair, Cond.selects RX4 yX4_pair yX4_pair, Cond.code yX4_pair cX4_pair 6 (some .int), Cond.fieldLink RX4 185 "ArrayMaker$Lines" "count" "I", Cond.methodLink RX4 186 yX0_add, Cond.instanceMethod yX0_add, Cond.selects RX0 yX0_add yX0_add, Cond.code yX0_add cX0_add 6 none, Cond.fieldLink RX0 25 "ArrayMaker$Lines" "count" "I", Cond.methodLink RL 94 yX5_pair, Cond.instanceMethod yX5_pair, Cond.selects RX5 yX5_pair yX5_pair, Cond.code yX5_pair cX5_pair 6 (some .int), Cond.fieldLink RX5 175 "ArrayMakerModel" "lines" "I", Cond.methodLink RL 95 yX4_gather, Cond.instanceMethod yX4_gather, Cond.selects RX4 yX4_gather yX4_gather]
def wsL_law_r24 : List Cond := [Cond.code yX4_gather cX4_gather 7 (some .int), Cond.fieldLink RX4 189 "ArrayMaker$Lines" "i" "[I", Cond.fieldLink RX4 192 "ArrayMaker$Lines" "j" "[I", Cond.fieldLink RX4 195 "ArrayMaker$Lines" "k" "[I", Cond.fieldLink RX4 198 "ArrayMaker$Lines" "v" "[J", Cond.methodLink RX4 201 yX4_joinCell, Cond.instanceMethod yX4_joinCell, Cond.selects RX4 yX4_joinCell yX4_joinCell, Cond.code yX4_joinCell cX4_joinCell 6 (some .boolean), Cond.methodLink RX4 255 yX4_joined, Cond.static yX4_joined, Cond.code yX4_joined cX4_joined 5 (some .long), Cond.methodLink RX4 259 Lib.MathLoose.max_long.x, Cond.methodLink RX4 265 Lib.MathLoose.min_long.x, Cond.methodLink RL 98 yX5_gather, Cond.instanceMethod yX5_gather, Cond.selects RX5 yX5_gather yX5_gather, Cond.code yX5_gather cX5_gather 6 (some .int), Cond.constantLong RX5 180 (5), Cond.methodLink RX5 182 yX5_joins, Cond.instanceMethod yX5_joins, Cond.selects RX5 yX5_joins yX5_joins, Cond.code yX5_joins cX5_joins 10 (some .boolean), Cond.constantLong RX5 178 (-1)]
def wsL_law_r25 : List Cond := [Cond.methodLink RL 99 yX4_join, Cond.instanceMethod yX4_join, Cond.selects RX4 yX4_join yX4_join, Cond.code yX4_join cX4_join 11 (some .int), Cond.methodLink RX4 208 yX4_whyNotJoined, Cond.instanceMethod yX4_whyNotJoined, Cond.selects RX4 yX4_whyNotJoined yX4_whyNotJoined, Cond.code yX4_whyNotJoined cX4_whyNotJoined 3 (some .int), Cond.methodLink RL 102 yX5_join, Cond.instanceMethod yX5_join, Cond.selects RX5 yX5_join yX5_join, Cond.code yX5_join cX5_join 8 (some .int), Cond.methodLink RL 103 yX4_sum, Cond.instanceMethod yX4_sum, Cond.selects RX4 yX4_sum yX4_sum, Cond.code yX4_sum cX4_sum 6 (some .long), Cond.methodLink RX4 212 yX3_totalOf, Cond.instanceMethod yX3_totalOf, Cond.selects RX3 yX3_totalOf yX3_totalOf, Cond.code yX3_totalOf cX3_totalOf 5 (some .long), Cond.methodLink RX3 60 yX3_lengthOf, Cond.methodLink RX3 64 yX3_startOf, Cond.methodLink RL 107 yX5_sum, Cond.instanceMethod yX5_sum]
def wsL_law_r26 : List Cond := [Cond.selects RX5 yX5_sum yX5_sum, Cond.code yX5_sum cX5_sum 6 (some .long), Cond.methodLink RX5 186 yX5_sumOf, Cond.instanceMethod yX5_sumOf, Cond.selects RX5 yX5_sumOf yX5_sumOf, Cond.code yX5_sumOf cX5_sumOf 5 (some .long), Cond.methodLink RL 108 yX4_mean, Cond.instanceMethod yX4_mean, Cond.selects RX4 yX4_mean yX4_mean, Cond.code yX4_mean cX4_mean 4 (some .long), Cond.methodLink RL 111 yX5_mean, Cond.instanceMethod yX5_mean, Cond.selects RX5 yX5_mean yX5_mean, Cond.code yX5_mean cX5_mean 3 (some .long), Cond.methodLink RL 112 yX4_about, Cond.instanceMethod yX4_about, Cond.selects RX4 yX4_about yX4_about, Cond.code yX4_about cX4_about 6 (some .int), Cond.fieldLink RX4 222 "ArrayMaker$Shape" "high" "[I", Cond.methodLink RX4 216 yX4_itemsOf, Cond.instanceMethod yX4_itemsOf, Cond.selects RX4 yX4_itemsOf yX4_itemsOf, Cond.code yX4_itemsOf cX4_itemsOf 4 (some .int), Cond.methodLink RL 115 yX5_about]
def wsL_law_r27 : List Cond := [Cond.instanceMethod yX5_about, Cond.selects RX5 yX5_about yX5_about, Cond.code yX5_about cX5_about 6 (some .int), Cond.constantLong RX5 190 (8), Cond.methodLink RL 116 yX4_same, Cond.instanceMethod yX4_same, Cond.selects RX4 yX4_same yX4_same, Cond.code yX4_same cX4_same 5 (some .int), Cond.methodLink RX4 225 yX4_haveSameRows, Cond.static yX4_haveSameRows, Cond.code yX4_haveSameRows cX4_haveSameRows 3 (some .boolean), Cond.methodLink RL 119 yX5_same, Cond.instanceMethod yX5_same, Cond.selects RX5 yX5_same yX5_same, Cond.code yX5_same cX5_same 5 (some .int), Cond.methodLink RL 120 yX4_compare, Cond.instanceMethod yX4_compare, Cond.selects RX4 yX4_compare yX4_compare, Cond.code yX4_compare cX4_compare 5 (some .int), Cond.methodLink RX4 229 yX3_orderOf, Cond.instanceMethod yX3_orderOf, Cond.selects RX3 yX3_orderOf yX3_orderOf, Cond.code yX3_orderOf cX3_orderOf 6 (some .int), Cond.methodLink RX3 67 Lib.Math.min.name]
def wsL_law_r28 : List Cond := [Cond.methodLink RX3 70 yJ13_compare_74951, Cond.static yJ13_compare_74951, Cond.initialized RJ13, Cond.code yJ13_compare_74951 cJ13_compare_74951 4 (some .int), Cond.methodLink RX3 76 yJ6_compare_7cf53, Cond.static yJ6_compare_7cf53, Cond.initialized RJ6, Cond.code yJ6_compare_7cf53 cJ6_compare_7cf53 2 (some .int), Cond.methodLink RL 123 yX5_compare, Cond.instanceMethod yX5_compare, Cond.selects RX5 yX5_compare yX5_compare, Cond.code yX5_compare cX5_compare 10 (some .int), Cond.methodLink RL 124 yX4_clear, Cond.instanceMethod yX4_clear, Cond.selects RX4 yX4_clear yX4_clear, Cond.code yX4_clear cX4_clear 2 (some .int), Cond.methodLink RX4 232 yX3_forget, Cond.instanceMethod yX3_forget, Cond.selects RX3 yX3_forget yX3_forget, Cond.code yX3_forget cX3_forget 1 none, Cond.methodLink RL 127 yX5_clear, Cond.instanceMethod yX5_clear, Cond.selects RX5 yX5_clear yX5_clear, Cond.code yX5_clear cX5_clear 2 (some .int)]
def wsL_law : List Cond := (wsL_law_r1 ++ (wsL_law_r2 ++ (wsL_law_r3 ++ (wsL_law_r4 ++ (wsL_law_r5 ++ (wsL_law_r6 ++ (wsL_law_r7 ++ (wsL_law_r8 ++ (wsL_law_r9 ++ (wsL_law_r10 ++ (wsL_law_r11 ++ (wsL_law_r12 ++ (wsL_law_r13 ++ (wsL_law_r14 ++ (wsL_law_r15 ++ (wsL_law_r16 ++ (wsL_law_r17 ++ (wsL_law_r18 ++ (wsL_law_r19 ++ (wsL_law_r20 ++ (wsL_law_r21 ++ (wsL_law_r22 ++ (wsL_law_r23 ++ (wsL_law_r24 ++ (wsL_law_r25 ++ (wsL_law_r26 ++ (wsL_law_r27 ++ wsL_law_r28))))))))))))))))))))))))))) ++ wsX40 ++ wsX50 ++ wsX20 ++ wsX00 ++ wsX30 ++ wsX10 ++ ([] : List Cond)
theorem inlX0 : ∀ w ∈ wsX00, w ∈ wsL_law := fun _ h => List.mem_append_left _ (List.mem_append_left _ (List.mem_append_left _ (List.mem_append_right _ h)))
theorem inlX1 : ∀ w ∈ wsX10, w ∈ wsL_law := fun _ h => List.mem_append_left _ (List.mem_append_right _ h)
theorem inlX2 : ∀ w ∈ wsX20, w ∈ wsL_law := fun _ h => List.mem_append_left _ (List.mem_append_left _ (List.mem_append_left _ (List.mem_append_left _ (List.mem_append_right _ h))))
theorem inlX3 : ∀ w ∈ wsX30, w ∈ wsL_law := fun _ h => List.mem_append_left _ (List.mem_append_left _ (List.mem_append_right _ h))
theorem inlX4 : ∀ w ∈ wsX40, w ∈ wsL_law := fun _ h => List.mem_append_left _ (List.mem_append_left _ (List.mem_append_left _ (List.mem_append_left _ (List.mem_append_left _ (List.mem_append_left _ (List.mem_append_right _ h))))))
theorem inlX5 : ∀ w ∈ wsX50, w ∈ wsL_law := fun _ h => List.mem_append_left _ (List.mem_append_left _ (List.mem_append_left _ (List.mem_append_left _ (List.mem_append_left _ (List.mem_append_right _ h)))))
abbrev vwCl : List vw_C := [(RX0, TX0, 5), (RX1, TX1, 4), (RX2, TX2, 3), (RX3, TX3, 6), (RX4, TX4, 8), (RX5, TX5, 25)]
