def RX0 : String := "PixelPress$BitCoder"
def TX0 : u_T := fun k => match k with
  | _ => ("", "", "", false)
def tyX0 : Nat → FieldType := fun k => match k with
  | _ => .int
abbrev wsX00 : List Cond := u_ws RX0 TX0 0
theorem nmX0 : ∀ a, a < 0 → ∀ b, b < 0 → a ≠ b → (TX0 a).2.1 ≠ (TX0 b).2.1 := by decide +kernel
theorem tyX0_ok : ∀ k, k < 0 → parseFieldDescriptor (TX0 k).2.2.1 = some (tyX0 k) := by decide +kernel
abbrev cX0_init : ByteArray := prog_2_method_1_code
def yX0_init : MethodName := ⟨RX0, "<init>", "()V"⟩
abbrev cX0_reset : ByteArray := prog_2_method_4_code
def yX0_reset : MethodName := ⟨RX0, "reset", "()V"⟩
abbrev cX0_code : ByteArray := prog_2_method_5_code
def yX0_code : MethodName := ⟨RX0, "code", "(II)I"⟩
abbrev cX0_splitFor : ByteArray := prog_2_method_6_code
def yX0_splitFor : MethodName := ⟨RX0, "splitFor", "(I)I"⟩
abbrev cX0_count : ByteArray := prog_2_method_7_code
def yX0_count : MethodName := ⟨RX0, "count", "(II)V"⟩
abbrev cX0_nextOffset : ByteArray := prog_2_method_8_code
def yX0_nextOffset : MethodName := ⟨RX0, "nextOffset", "()I"⟩
def RX1 : String := "PixelPress$BitReader"
def TX1 : u_T := fun k => match k with
  | 0 => ("PixelPress$BitCoder", "low", "I", false)
  | 1 => ("PixelPress$BitCoder", "high", "I", false)
  | 2 => ("PixelPress$BitCoder", "zeros", "[I", true)
  | 3 => ("PixelPress$BitCoder", "ones", "[I", true)
  | 4 => ("PixelPress$BitReader", "bytes", "[I", false)
  | 5 => ("PixelPress$BitReader", "position", "I", false)
  | 6 => ("PixelPress$BitReader", "end", "I", false)
  | _ => ("PixelPress$BitReader", "code", "I", false)
def tyX1 : Nat → FieldType := fun k => match k with
  | 0 => .int
  | 1 => .int
  | 2 => .array .int
  | 3 => .array .int
  | 4 => .array .int
  | 5 => .int
  | 6 => .int
  | _ => .int
abbrev wsX10 : List Cond := u_ws RX1 TX1 8
theorem nmX1 : ∀ a, a < 8 → ∀ b, b < 8 → a ≠ b → (TX1 a).2.1 ≠ (TX1 b).2.1 := by decide +kernel
theorem tyX1_ok : ∀ k, k < 8 → parseFieldDescriptor (TX1 k).2.2.1 = some (tyX1 k) := by decide +kernel
abbrev cX1_init : ByteArray := prog_3_method_1_code
def yX1_init : MethodName := ⟨RX1, "<init>", "()V"⟩
abbrev cX1_start : ByteArray := prog_3_method_2_code
def yX1_start : MethodName := ⟨RX1, "start", "([III)V"⟩
abbrev cX1_choose : ByteArray := prog_3_method_3_code
def yX1_choose : MethodName := ⟨RX1, "choose", "(II)I"⟩
abbrev cX1_take : ByteArray := prog_3_method_4_code
def yX1_take : MethodName := ⟨RX1, "take", "(I)V"⟩
def RX2 : String := "PixelPress$BitWriter"
def TX2 : u_T := fun k => match k with
  | 0 => ("PixelPress$BitCoder", "low", "I", false)
  | 1 => ("PixelPress$BitCoder", "high", "I", false)
  | 2 => ("PixelPress$BitCoder", "zeros", "[I", true)
  | 3 => ("PixelPress$BitCoder", "ones", "[I", true)
  | 4 => ("PixelPress$BitWriter", "bytes", "[I", true)
  | 5 => ("PixelPress$BitWriter", "bitCount", "I", false)
  | _ => ("PixelPress$BitWriter", "pending", "I", false)
def tyX2 : Nat → FieldType := fun k => match k with
  | 0 => .int
  | 1 => .int
  | 2 => .array .int
  | 3 => .array .int
  | 4 => .array .int
  | 5 => .int
  | _ => .int
abbrev wsX20 : List Cond := u_ws RX2 TX2 7
theorem nmX2 : ∀ a, a < 7 → ∀ b, b < 7 → a ≠ b → (TX2 a).2.1 ≠ (TX2 b).2.1 := by decide +kernel
theorem tyX2_ok : ∀ k, k < 7 → parseFieldDescriptor (TX2 k).2.2.1 = some (tyX2 k) := by decide +kernel
abbrev cX2_init : ByteArray := prog_4_method_1_code
def yX2_init : MethodName := ⟨RX2, "<init>", "()V"⟩
abbrev cX2_start : ByteArray := prog_4_method_2_code
def yX2_start : MethodName := ⟨RX2, "start", "()V"⟩
abbrev cX2_finish : ByteArray := prog_4_method_3_code
def yX2_finish : MethodName := ⟨RX2, "finish", "()V"⟩
abbrev cX2_byteCount : ByteArray := prog_4_method_4_code
def yX2_byteCount : MethodName := ⟨RX2, "byteCount", "()I"⟩
abbrev cX2_choose : ByteArray := prog_4_method_5_code
def yX2_choose : MethodName := ⟨RX2, "choose", "(II)I"⟩
abbrev cX2_take : ByteArray := prog_4_method_6_code
def yX2_take : MethodName := ⟨RX2, "take", "(I)V"⟩
def RX3 : String := "PixelPress$ByteRow"
def TX3 : u_T := fun k => match k with
  | 0 => ("PixelPress$ByteRow", "bytes", "[I", false)
  | _ => ("PixelPress$ByteRow", "count", "I", false)
def tyX3 : Nat → FieldType := fun k => match k with
  | 0 => .array .int
  | _ => .int
abbrev wsX30 : List Cond := u_ws RX3 TX3 2
theorem nmX3 : ∀ a, a < 2 → ∀ b, b < 2 → a ≠ b → (TX3 a).2.1 ≠ (TX3 b).2.1 := by decide +kernel
theorem tyX3_ok : ∀ k, k < 2 → parseFieldDescriptor (TX3 k).2.2.1 = some (tyX3 k) := by decide +kernel
abbrev cX3_init : ByteArray := prog_5_method_1_code
def yX3_init : MethodName := ⟨RX3, "<init>", "()V"⟩
abbrev cX3_clear : ByteArray := prog_5_method_2_code
def yX3_clear : MethodName := ⟨RX3, "clear", "()V"⟩
abbrev cX3_append : ByteArray := prog_5_method_3_code
def yX3_append : MethodName := ⟨RX3, "append", "(I)V"⟩
abbrev cX3_at : ByteArray := prog_5_method_4_code
def yX3_at : MethodName := ⟨RX3, "at", "(I)I"⟩
abbrev cX3_put : ByteArray := prog_5_method_5_code
def yX3_put : MethodName := ⟨RX3, "put", "(II)V"⟩
def RX4 : String := "PixelPress$Layer"
def TX4 : u_T := fun k => match k with
  | 0 => ("PixelPress$Layer", "step", "I", false)
  | 1 => ("PixelPress$Layer", "blockCount", "I", false)
  | 2 => ("PixelPress$Layer", "partSizes", "[I", true)
  | 3 => ("PixelPress$Layer", "sizes", "[I", true)
  | 4 => ("PixelPress$Layer", "modes", "[I", true)
  | 5 => ("PixelPress$Layer", "costs", "[I", true)
  | 6 => ("PixelPress$Layer", "levels", "[I", true)
  | 7 => ("PixelPress$Layer", "result", "[I", true)
  | 8 => ("PixelPress$Layer", "prediction", "LPixelPress$Prediction;", true)
  | _ => ("PixelPress$Layer", "transform", "LPixelPress$Transform;", true)
def tyX4 : Nat → FieldType := fun k => match k with
  | 0 => .int
  | 1 => .int
  | 2 => .array .int
  | 3 => .array .int
  | 4 => .array .int
  | 5 => .array .int
  | 6 => .array .int
  | 7 => .array .int
  | 8 => .object "PixelPress$Prediction"
  | _ => .object "PixelPress$Transform"
abbrev wsX40 : List Cond := u_ws RX4 TX4 10
theorem nmX4 : ∀ a, a < 10 → ∀ b, b < 10 → a ≠ b → (TX4 a).2.1 ≠ (TX4 b).2.1 := by decide +kernel
theorem tyX4_ok : ∀ k, k < 10 → parseFieldDescriptor (TX4 k).2.2.1 = some (tyX4 k) := by decide +kernel
abbrev cX4_init : ByteArray := prog_6_method_1_code
def yX4_init : MethodName := ⟨RX4, "<init>", "()V"⟩
abbrev cX4_sizeAt : ByteArray := prog_6_method_2_code
def yX4_sizeAt : MethodName := ⟨RX4, "sizeAt", "(II)I"⟩
abbrev cX4_setSizeAt : ByteArray := prog_6_method_3_code
def yX4_setSizeAt : MethodName := ⟨RX4, "setSizeAt", "(III)V"⟩
abbrev cX4_firstCell : ByteArray := prog_6_method_4_code
def yX4_firstCell : MethodName := ⟨RX4, "firstCell", "(II)I"⟩
abbrev cX4_makeTile : ByteArray := prog_6_method_5_code
def yX4_makeTile : MethodName := ⟨RX4, "makeTile", "([III)V"⟩
abbrev cX4_makeBlocks : ByteArray := prog_6_method_6_code
def yX4_makeBlocks : MethodName := ⟨RX4, "makeBlocks", "([IIIZ)I"⟩
abbrev cX4_fitBlock : ByteArray := prog_6_method_7_code
def yX4_fitBlock : MethodName := ⟨RX4, "fitBlock", "([IIII)I"⟩
abbrev cX4_restoreBlock : ByteArray := prog_6_method_8_code
def yX4_restoreBlock : MethodName := ⟨RX4, "restoreBlock", "(III)V"⟩
abbrev cX4_restoreSlice : ByteArray := prog_6_method_9_code
def yX4_restoreSlice : MethodName := ⟨RX4, "restoreSlice", "(II)V"⟩
def RX5 : String := "PixelPress$Picture"
def TX5 : u_T := fun k => match k with
  | 0 => ("PixelPress$Picture", "columns", "I", false)
  | 1 => ("PixelPress$Picture", "rows", "I", false)
  | _ => ("PixelPress$Picture", "pixels", "[I", true)
def tyX5 : Nat → FieldType := fun k => match k with
  | 0 => .int
  | 1 => .int
  | _ => .array .int
abbrev wsX50 : List Cond := u_ws RX5 TX5 3
theorem nmX5 : ∀ a, a < 3 → ∀ b, b < 3 → a ≠ b → (TX5 a).2.1 ≠ (TX5 b).2.1 := by decide +kernel
theorem tyX5_ok : ∀ k, k < 3 → parseFieldDescriptor (TX5 k).2.2.1 = some (tyX5 k) := by decide +kernel
abbrev cX5_init : ByteArray := prog_7_method_1_code
def yX5_init : MethodName := ⟨RX5, "<init>", "()V"⟩
abbrev cX5_clear : ByteArray := prog_7_method_2_code
def yX5_clear : MethodName := ⟨RX5, "clear", "(II)V"⟩
abbrev cX5_has : ByteArray := prog_7_method_3_code
def yX5_has : MethodName := ⟨RX5, "has", "(II)Z"⟩
abbrev cX5_at : ByteArray := prog_7_method_4_code
def yX5_at : MethodName := ⟨RX5, "at", "(II)I"⟩
abbrev cX5_put : ByteArray := prog_7_method_5_code
def yX5_put : MethodName := ⟨RX5, "put", "(III)V"⟩
abbrev cX5_isAsLargeAs : ByteArray := prog_7_method_6_code
def yX5_isAsLargeAs : MethodName := ⟨RX5, "isAsLargeAs", "(LPixelPress$Picture;)Z"⟩
abbrev cX5_addRows : ByteArray := prog_7_method_7_code
def yX5_addRows : MethodName := ⟨RX5, "addRows", "([II)V"⟩
abbrev cX5_clamp : ByteArray := prog_7_method_8_code
def yX5_clamp : MethodName := ⟨RX5, "clamp", "()V"⟩
def RX6 : String := "PixelPress$Prediction"
def TX6 : u_T := fun k => match k with
  | 0 => ("PixelPress$Prediction", "size", "I", false)
  | 1 => ("PixelPress$Prediction", "average", "I", false)
  | 2 => ("PixelPress$Prediction", "left", "[I", true)
  | _ => ("PixelPress$Prediction", "above", "[I", true)
def tyX6 : Nat → FieldType := fun k => match k with
  | 0 => .int
  | 1 => .int
  | 2 => .array .int
  | _ => .array .int
abbrev wsX60 : List Cond := u_ws RX6 TX6 4
theorem nmX6 : ∀ a, a < 4 → ∀ b, b < 4 → a ≠ b → (TX6 a).2.1 ≠ (TX6 b).2.1 := by decide +kernel
theorem tyX6_ok : ∀ k, k < 4 → parseFieldDescriptor (TX6 k).2.2.1 = some (tyX6 k) := by decide +kernel
abbrev cX6_init : ByteArray := prog_8_method_1_code
def yX6_init : MethodName := ⟨RX6, "<init>", "()V"⟩
abbrev cX6_look : ByteArray := prog_8_method_2_code
def yX6_look : MethodName := ⟨RX6, "look", "([IIII)V"⟩
abbrev cX6_of : ByteArray := prog_8_method_3_code
def yX6_of : MethodName := ⟨RX6, "of", "(III)I"⟩
abbrev cX6_bestMode : ByteArray := prog_8_method_4_code
def yX6_bestMode : MethodName := ⟨RX6, "bestMode", "([III)I"⟩
def RX7 : String := "PixelPress$Transform"
def TX7 : u_T := fun k => match k with
  | 0 => ("PixelPress$Transform", "places", "[I", true)
  | _ => ("PixelPress$Transform", "line", "[I", true)
def tyX7 : Nat → FieldType := fun k => match k with
  | 0 => .array .int
  | _ => .array .int
abbrev wsX70 : List Cond := u_ws RX7 TX7 2
theorem nmX7 : ∀ a, a < 2 → ∀ b, b < 2 → a ≠ b → (TX7 a).2.1 ≠ (TX7 b).2.1 := by decide +kernel
theorem tyX7_ok : ∀ k, k < 2 → parseFieldDescriptor (TX7 k).2.2.1 = some (tyX7 k) := by decide +kernel
abbrev cX7_init : ByteArray := prog_9_method_1_code
def yX7_init : MethodName := ⟨RX7, "<init>", "()V"⟩
abbrev cX7_split : ByteArray := prog_9_method_2_code
def yX7_split : MethodName := ⟨RX7, "split", "(I)V"⟩
abbrev cX7_join : ByteArray := prog_9_method_3_code
def yX7_join : MethodName := ⟨RX7, "join", "(I)V"⟩
abbrev cX7_splitLine : ByteArray := prog_9_method_4_code
def yX7_splitLine : MethodName := ⟨RX7, "splitLine", "(III)V"⟩
abbrev cX7_joinLine : ByteArray := prog_9_method_5_code
def yX7_joinLine : MethodName := ⟨RX7, "joinLine", "(III)V"⟩
def RX8 : String := "PixelPress"
def TX8 : u_T := fun k => match k with
  | 0 => ("PixelPress", "picture", "LPixelPress$Picture;", true)
  | 1 => ("PixelPress", "steps", "[I", true)
  | 2 => ("PixelPress", "layerCount", "I", false)
  | 3 => ("PixelPress", "stream", "LPixelPress$ByteRow;", true)
  | 4 => ("PixelPress", "decoded", "LPixelPress$Picture;", true)
  | 5 => ("PixelPress", "hasDecoded", "Z", false)
  | 6 => ("PixelPress", "faults", "[C", true)
  | 7 => ("PixelPress", "usedLayers", "[I", true)
  | 8 => ("PixelPress", "codedLayers", "[LPixelPress$Layer;", true)
  | 9 => ("PixelPress", "codedCount", "I", false)
  | 10 => ("PixelPress", "codedWidth", "I", false)
  | 11 => ("PixelPress", "codedHeight", "I", false)
  | 12 => ("PixelPress", "replacedSize", "I", false)
  | 13 => ("PixelPress", "replacedPlainSize", "I", false)
  | 14 => ("PixelPress", "target", "[I", true)
  | 15 => ("PixelPress", "decodedLayer", "LPixelPress$Layer;", true)
  | 16 => ("PixelPress", "writer", "LPixelPress$BitWriter;", true)
  | _ => ("PixelPress", "reader", "LPixelPress$BitReader;", true)
def tyX8 : Nat → FieldType := fun k => match k with
  | 0 => .object "PixelPress$Picture"
  | 1 => .array .int
  | 2 => .int
  | 3 => .object "PixelPress$ByteRow"
  | 4 => .object "PixelPress$Picture"
  | 5 => .boolean
  | 6 => .array .char
  | 7 => .array .int
  | 8 => .array (.object "PixelPress$Layer")
  | 9 => .int
  | 10 => .int
  | 11 => .int
  | 12 => .int
  | 13 => .int
  | 14 => .array .int
  | 15 => .object "PixelPress$Layer"
  | 16 => .object "PixelPress$BitWriter"
  | _ => .object "PixelPress$BitReader"
abbrev wsX80 : List Cond := u_ws RX8 TX8 18
theorem nmX8 : ∀ a, a < 18 → ∀ b, b < 18 → a ≠ b → (TX8 a).2.1 ≠ (TX8 b).2.1 := by decide +kernel
theorem tyX8_ok : ∀ k, k < 18 → parseFieldDescriptor (TX8 k).2.2.1 = some (tyX8 k) := by decide +kernel
abbrev cX8_init : ByteArray := prog_1_method_1_code
def yX8_init : MethodName := ⟨RX8, "<init>", "()V"⟩
abbrev cX8_resize : ByteArray := prog_1_method_2_code
def yX8_resize : MethodName := ⟨RX8, "resize", "(II)I"⟩
abbrev cX8_set : ByteArray := prog_1_method_3_code
def yX8_set : MethodName := ⟨RX8, "set", "(III)I"⟩
abbrev cX8_fill : ByteArray := prog_1_method_4_code
def yX8_fill : MethodName := ⟨RX8, "fill", "(IIIII)I"⟩
abbrev cX8_ramp : ByteArray := prog_1_method_5_code
def yX8_ramp : MethodName := ⟨RX8, "ramp", "(III)I"⟩
abbrev cX8_pixel : ByteArray := prog_1_method_6_code
def yX8_pixel : MethodName := ⟨RX8, "pixel", "(II)I"⟩
abbrev cX8_width : ByteArray := prog_1_method_7_code
def yX8_width : MethodName := ⟨RX8, "width", "()I"⟩
abbrev cX8_height : ByteArray := prog_1_method_8_code
def yX8_height : MethodName := ⟨RX8, "height", "()I"⟩
abbrev cX8_setSteps : ByteArray := prog_1_method_9_code
def yX8_setSteps : MethodName := ⟨RX8, "setSteps", "(III)I"⟩
abbrev cX8_isLossless : ByteArray := prog_1_method_10_code
def yX8_isLossless : MethodName := ⟨RX8, "isLossless", "()Z"⟩
abbrev cX8_encode : ByteArray := prog_1_method_11_code
def yX8_encode : MethodName := ⟨RX8, "encode", "()I"⟩
abbrev cX8_encodePlain : ByteArray := prog_1_method_12_code
def yX8_encodePlain : MethodName := ⟨RX8, "encodePlain", "()I"⟩
abbrev cX8_size : ByteArray := prog_1_method_13_code
def yX8_size : MethodName := ⟨RX8, "size", "()I"⟩
abbrev cX8_byteAt : ByteArray := prog_1_method_14_code
def yX8_byteAt : MethodName := ⟨RX8, "byteAt", "(I)I"⟩
abbrev cX8_setByte : ByteArray := prog_1_method_15_code
def yX8_setByte : MethodName := ⟨RX8, "setByte", "(II)I"⟩
abbrev cX8_cut : ByteArray := prog_1_method_16_code
def yX8_cut : MethodName := ⟨RX8, "cut", "(I)I"⟩
abbrev cX8_decode : ByteArray := prog_1_method_17_code
def yX8_decode : MethodName := ⟨RX8, "decode", "(I)I"⟩
abbrev cX8_decodedWidth : ByteArray := prog_1_method_18_code
def yX8_decodedWidth : MethodName := ⟨RX8, "decodedWidth", "()I"⟩
abbrev cX8_decodedHeight : ByteArray := prog_1_method_19_code
def yX8_decodedHeight : MethodName := ⟨RX8, "decodedHeight", "()I"⟩
abbrev cX8_decodedPixel : ByteArray := prog_1_method_20_code
def yX8_decodedPixel : MethodName := ⟨RX8, "decodedPixel", "(II)I"⟩
abbrev cX8_fault : ByteArray := prog_1_method_21_code
def yX8_fault : MethodName := ⟨RX8, "fault", "(I)C"⟩
abbrev cX8_layersUsed : ByteArray := prog_1_method_22_code
def yX8_layersUsed : MethodName := ⟨RX8, "layersUsed", "(I)I"⟩
abbrev cX8_isSame : ByteArray := prog_1_method_23_code
def yX8_isSame : MethodName := ⟨RX8, "isSame", "()Z"⟩
abbrev cX8_squaredError : ByteArray := prog_1_method_24_code
def yX8_squaredError : MethodName := ⟨RX8, "squaredError", "()I"⟩
abbrev cX8_greatestError : ByteArray := prog_1_method_25_code
def yX8_greatestError : MethodName := ⟨RX8, "greatestError", "()I"⟩
abbrev cX8_blocks : ByteArray := prog_1_method_26_code
def yX8_blocks : MethodName := ⟨RX8, "blocks", "(I)I"⟩
abbrev cX8_blockSize : ByteArray := prog_1_method_27_code
def yX8_blockSize : MethodName := ⟨RX8, "blockSize", "(III)I"⟩
abbrev cX8_mode : ByteArray := prog_1_method_28_code
def yX8_mode : MethodName := ⟨RX8, "mode", "(III)C"⟩
abbrev cX8_level : ByteArray := prog_1_method_29_code
def yX8_level : MethodName := ⟨RX8, "level", "(III)I"⟩
abbrev cX8_cost : ByteArray := prog_1_method_30_code
def yX8_cost : MethodName := ⟨RX8, "cost", "(III)I"⟩
abbrev cX8_partSize : ByteArray := prog_1_method_31_code
def yX8_partSize : MethodName := ⟨RX8, "partSize", "(II)I"⟩
abbrev cX8_ratio : ByteArray := prog_1_method_32_code
def yX8_ratio : MethodName := ⟨RX8, "ratio", "()F"⟩
abbrev cX8_isPictureSize : ByteArray := prog_1_method_33_code
def yX8_isPictureSize : MethodName := ⟨RX8, "isPictureSize", "(II)Z"⟩
abbrev cX8_isStepAfter : ByteArray := prog_1_method_34_code
def yX8_isStepAfter : MethodName := ⟨RX8, "isStepAfter", "(II)Z"⟩
abbrev cX8_requireByte : ByteArray := prog_1_method_35_code
def yX8_requireByte : MethodName := ⟨RX8, "requireByte", "(I)V"⟩
abbrev cX8_requirePixel : ByteArray := prog_1_method_36_code
def yX8_requirePixel : MethodName := ⟨RX8, "requirePixel", "(LPixelPress$Picture;II)V"⟩
abbrev cX8_requireSlice : ByteArray := prog_1_method_37_code
def yX8_requireSlice : MethodName := ⟨RX8, "requireSlice", "(II)V"⟩
abbrev cX8_requireStreamByte : ByteArray := prog_1_method_38_code
def yX8_requireStreamByte : MethodName := ⟨RX8, "requireStreamByte", "(I)V"⟩
abbrev cX8_requireDecoded : ByteArray := prog_1_method_39_code
def yX8_requireDecoded : MethodName := ⟨RX8, "requireDecoded", "()V"⟩
abbrev cX8_requireSameSize : ByteArray := prog_1_method_40_code
def yX8_requireSameSize : MethodName := ⟨RX8, "requireSameSize", "()V"⟩
abbrev cX8_requireCodedLayer : ByteArray := prog_1_method_41_code
def yX8_requireCodedLayer : MethodName := ⟨RX8, "requireCodedLayer", "(I)V"⟩
abbrev cX8_requireCodedPixel : ByteArray := prog_1_method_42_code
def yX8_requireCodedPixel : MethodName := ⟨RX8, "requireCodedPixel", "(III)V"⟩
abbrev cX8_slicesOf : ByteArray := prog_1_method_43_code
def yX8_slicesOf : MethodName := ⟨RX8, "slicesOf", "(I)I"⟩
abbrev cX8_tilesOf : ByteArray := prog_1_method_44_code
def yX8_tilesOf : MethodName := ⟨RX8, "tilesOf", "(I)I"⟩
abbrev cX8_rememberReplacement : ByteArray := prog_1_method_45_code
def yX8_rememberReplacement : MethodName := ⟨RX8, "rememberReplacement", "(I)V"⟩
abbrev cX8_writeCodedHeader : ByteArray := prog_1_method_46_code
def yX8_writeCodedHeader : MethodName := ⟨RX8, "writeCodedHeader", "()V"⟩
abbrev cX8_extendPicture : ByteArray := prog_1_method_47_code
def yX8_extendPicture : MethodName := ⟨RX8, "extendPicture", "()V"⟩
abbrev cX8_subtractFromTarget : ByteArray := prog_1_method_48_code
def yX8_subtractFromTarget : MethodName := ⟨RX8, "subtractFromTarget", "(LPixelPress$Layer;)V"⟩
abbrev cX8_encodeLayer : ByteArray := prog_1_method_49_code
def yX8_encodeLayer : MethodName := ⟨RX8, "encodeLayer", "(LPixelPress$Layer;)V"⟩
abbrev cX8_appendPart : ByteArray := prog_1_method_50_code
def yX8_appendPart : MethodName := ⟨RX8, "appendPart", "()V"⟩
abbrev cX8_checksum : ByteArray := prog_1_method_51_code
def yX8_checksum : MethodName := ⟨RX8, "checksum", "([III)I"⟩
abbrev cX8_codePart : ByteArray := prog_1_method_52_code
def yX8_codePart : MethodName := ⟨RX8, "codePart", "(LPixelPress$BitCoder;LPixelPress$Layer;II)V"⟩
abbrev cX8_codeBlock : ByteArray := prog_1_method_53_code
def yX8_codeBlock : MethodName := ⟨RX8, "codeBlock", "(LPixelPress$BitCoder;LPixelPress$Layer;III)V"⟩
abbrev cX8_levelContext : ByteArray := prog_1_method_54_code
def yX8_levelContext : MethodName := ⟨RX8, "levelContext", "([IIII)I"⟩
abbrev cX8_codeLevel : ByteArray := prog_1_method_55_code
def yX8_codeLevel : MethodName := ⟨RX8, "codeLevel", "(LPixelPress$BitCoder;II)I"⟩
abbrev cX8_digitsOf : ByteArray := prog_1_method_56_code
def yX8_digitsOf : MethodName := ⟨RX8, "digitsOf", "(I)I"⟩
abbrev cX8_hasValidHeader : ByteArray := prog_1_method_57_code
def yX8_hasValidHeader : MethodName := ⟨RX8, "hasValidHeader", "()Z"⟩
abbrev cX8_hasValidSteps : ByteArray := prog_1_method_58_code
def yX8_hasValidSteps : MethodName := ⟨RX8, "hasValidSteps", "()Z"⟩
abbrev cX8_forgetSlices : ByteArray := prog_1_method_59_code
def yX8_forgetSlices : MethodName := ⟨RX8, "forgetSlices", "()V"⟩
abbrev cX8_readPlainPixels : ByteArray := prog_1_method_60_code
def yX8_readPlainPixels : MethodName := ⟨RX8, "readPlainPixels", "()V"⟩
abbrev cX8_readPlainRows : ByteArray := prog_1_method_61_code
def yX8_readPlainRows : MethodName := ⟨RX8, "readPlainRows", "(II)V"⟩
abbrev cX8_readParts : ByteArray := prog_1_method_62_code
def yX8_readParts : MethodName := ⟨RX8, "readParts", "(I)V"⟩
abbrev cX8_partCount : ByteArray := prog_1_method_63_code
def yX8_partCount : MethodName := ⟨RX8, "partCount", "(I)I"⟩
abbrev cX8_partFault : ByteArray := prog_1_method_64_code
def yX8_partFault : MethodName := ⟨RX8, "partFault", "(II)C"⟩
abbrev cX8_countFaultySlices : ByteArray := prog_1_method_65_code
def yX8_countFaultySlices : MethodName := ⟨RX8, "countFaultySlices", "()I"⟩
abbrev cX8_largestDifference : ByteArray := prog_1_method_66_code
def yX8_largestDifference : MethodName := ⟨RX8, "largestDifference", "()I"⟩
def RX9 : String := "PixelPressLaw$Draw"
def TX9 : u_T := fun k => match k with
  | _ => ("PixelPressLaw$Draw", "state", "I", false)
def tyX9 : Nat → FieldType := fun k => match k with
  | _ => .int
abbrev wsX90 : List Cond := u_ws RX9 TX9 1
theorem nmX9 : ∀ a, a < 1 → ∀ b, b < 1 → a ≠ b → (TX9 a).2.1 ≠ (TX9 b).2.1 := by decide +kernel
theorem tyX9_ok : ∀ k, k < 1 → parseFieldDescriptor (TX9 k).2.2.1 = some (tyX9 k) := by decide +kernel
abbrev cX9_init : ByteArray := prog_11_method_1_code
def yX9_init : MethodName := ⟨RX9, "<init>", "(I)V"⟩
abbrev cX9_next : ByteArray := prog_11_method_2_code
def yX9_next : MethodName := ⟨RX9, "next", "(I)I"⟩
def RX10 : String := "PixelPressModel"
def TX10 : u_T := fun k => match k with
  | _ => ("", "", "", false)
def tyX10 : Nat → FieldType := fun k => match k with
  | _ => .int
abbrev wsX100 : List Cond := u_ws RX10 TX10 0
theorem nmX10 : ∀ a, a < 0 → ∀ b, b < 0 → a ≠ b → (TX10 a).2.1 ≠ (TX10 b).2.1 := by decide +kernel
theorem tyX10_ok : ∀ k, k < 0 → parseFieldDescriptor (TX10 k).2.2.1 = some (tyX10 k) := by decide +kernel
def RJx145de : String := "java/io/Serializable"
def TJx145de : u_T := fun k => match k with
  | _ => ("", "", "", false)
def tyJx145de : Nat → FieldType := fun k => match k with
  | _ => .int
theorem nmJx145de : ∀ a, a < 0 → ∀ b, b < 0 → a ≠ b → (TJx145de a).2.1 ≠ (TJx145de b).2.1 := by decide +kernel
theorem tyJx145de_ok : ∀ k, k < 0 → parseFieldDescriptor (TJx145de k).2.2.1 = some (tyJx145de k) := by decide +kernel
def RJ5 : String := "java/lang/AbstractStringBuilder"
def TJ5 : u_T := fun k => match k with
  | _ => ("", "", "", false)
def tyJ5 : Nat → FieldType := fun k => match k with
  | _ => .int
theorem nmJ5 : ∀ a, a < 0 → ∀ b, b < 0 → a ≠ b → (TJ5 a).2.1 ≠ (TJ5 b).2.1 := by decide +kernel
theorem tyJ5_ok : ∀ k, k < 0 → parseFieldDescriptor (TJ5 k).2.2.1 = some (tyJ5 k) := by decide +kernel
abbrev cJ5_init_d00df : ByteArray := prog_14_method_2_code
def yJ5_init_d00df : MethodName := ⟨RJ5, "<init>", "(I)V"⟩
abbrev cJ5_length_8abf5 : ByteArray := prog_14_method_6_code
def yJ5_length_8abf5 : MethodName := ⟨RJ5, "length", "()I"⟩
abbrev cJ5_ensureCapacityInternal_d00df : ByteArray := prog_14_method_9_code
def yJ5_ensureCapacityInternal_d00df : MethodName := ⟨RJ5, "ensureCapacityInternal", "(I)V"⟩
abbrev cJ5_newCapacity_0f7a4 : ByteArray := prog_14_method_10_code
def yJ5_newCapacity_0f7a4 : MethodName := ⟨RJ5, "newCapacity", "(I)I"⟩
abbrev cJ5_inflate_da8c8 : ByteArray := prog_14_method_11_code
def yJ5_inflate_da8c8 : MethodName := ⟨RJ5, "inflate", "()V"⟩
abbrev cJ5_charAt_5068e : ByteArray := prog_14_method_14_code
def yJ5_charAt_5068e : MethodName := ⟨RJ5, "charAt", "(I)C"⟩
abbrev cJ5_append_cf1ce : ByteArray := prog_14_method_22_code
def yJ5_append_cf1ce : MethodName := ⟨RJ5, "append", "(Ljava/lang/String;)Ljava/lang/AbstractStringBuilder;"⟩
abbrev cJ5_append_2ceeb : ByteArray := prog_14_method_24_code
def yJ5_append_2ceeb : MethodName := ⟨RJ5, "append", "(Ljava/lang/AbstractStringBuilder;)Ljava/lang/AbstractStringBuilder;"⟩
abbrev cJ5_append_8f9a3 : ByteArray := prog_14_method_25_code
def yJ5_append_8f9a3 : MethodName := ⟨RJ5, "append", "(Ljava/lang/CharSequence;)Ljava/lang/AbstractStringBuilder;"⟩
abbrev cJ5_appendNull_278bc : ByteArray := prog_14_method_26_code
def yJ5_appendNull_278bc : MethodName := ⟨RJ5, "appendNull", "()Ljava/lang/AbstractStringBuilder;"⟩
abbrev cJ5_append_e1f22 : ByteArray := prog_14_method_27_code
def yJ5_append_e1f22 : MethodName := ⟨RJ5, "append", "(Ljava/lang/CharSequence;II)Ljava/lang/AbstractStringBuilder;"⟩
abbrev cJ5_append_a1634 : ByteArray := prog_14_method_28_code
def yJ5_append_a1634 : MethodName := ⟨RJ5, "append", "([C)Ljava/lang/AbstractStringBuilder;"⟩
abbrev cJ5_append_34b3d : ByteArray := prog_14_method_30_code
def yJ5_append_34b3d : MethodName := ⟨RJ5, "append", "(Z)Ljava/lang/AbstractStringBuilder;"⟩
abbrev cJ5_append_3fe6f : ByteArray := prog_14_method_31_code
def yJ5_append_3fe6f : MethodName := ⟨RJ5, "append", "(C)Ljava/lang/AbstractStringBuilder;"⟩
abbrev cJ5_append_c97b9 : ByteArray := prog_14_method_32_code
def yJ5_append_c97b9 : MethodName := ⟨RJ5, "append", "(I)Ljava/lang/AbstractStringBuilder;"⟩
abbrev cJ5_append_b089e : ByteArray := prog_14_method_34_code
def yJ5_append_b089e : MethodName := ⟨RJ5, "append", "(F)Ljava/lang/AbstractStringBuilder;"⟩
abbrev cJ5_getValue_6d5f1 : ByteArray := prog_14_method_64_code
def yJ5_getValue_6d5f1 : MethodName := ⟨RJ5, "getValue", "()[B"⟩
abbrev cJ5_getBytes_840e7 : ByteArray := prog_14_method_65_code
def yJ5_getBytes_840e7 : MethodName := ⟨RJ5, "getBytes", "([BIB)V"⟩
abbrev cJ5_getCoder_7d493 : ByteArray := prog_14_method_67_code
def yJ5_getCoder_7d493 : MethodName := ⟨RJ5, "getCoder", "()B"⟩
abbrev cJ5_isLatin1_aae02 : ByteArray := prog_14_method_68_code
def yJ5_isLatin1_aae02 : MethodName := ⟨RJ5, "isLatin1", "()Z"⟩
abbrev cJ5_inflateIfNeededFor_a7421 : ByteArray := prog_14_method_71_code
def yJ5_inflateIfNeededFor_a7421 : MethodName := ⟨RJ5, "inflateIfNeededFor", "(Ljava/lang/String;)V"⟩
abbrev cJ5_inflateIfNeededFor_56e69 : ByteArray := prog_14_method_72_code
def yJ5_inflateIfNeededFor_56e69 : MethodName := ⟨RJ5, "inflateIfNeededFor", "(Ljava/lang/AbstractStringBuilder;)V"⟩
abbrev cJ5_putStringAt_47b60 : ByteArray := prog_14_method_73_code
def yJ5_putStringAt_47b60 : MethodName := ⟨RJ5, "putStringAt", "(ILjava/lang/String;)V"⟩
abbrev cJ5_appendChars_0ad70 : ByteArray := prog_14_method_74_code
def yJ5_appendChars_0ad70 : MethodName := ⟨RJ5, "appendChars", "([CII)V"⟩
abbrev cJ5_appendChars_3135b : ByteArray := prog_14_method_75_code
def yJ5_appendChars_3135b : MethodName := ⟨RJ5, "appendChars", "(Ljava/lang/String;II)V"⟩
abbrev cJ5_appendChars_a91ff : ByteArray := prog_14_method_76_code
def yJ5_appendChars_a91ff : MethodName := ⟨RJ5, "appendChars", "(Ljava/lang/CharSequence;II)V"⟩
def RJx2cfe8 : String := "java/lang/Appendable"
def TJx2cfe8 : u_T := fun k => match k with
  | _ => ("", "", "", false)
def tyJx2cfe8 : Nat → FieldType := fun k => match k with
  | _ => .int
theorem nmJx2cfe8 : ∀ a, a < 0 → ∀ b, b < 0 → a ≠ b → (TJx2cfe8 a).2.1 ≠ (TJx2cfe8 b).2.1 := by decide +kernel
theorem tyJx2cfe8_ok : ∀ k, k < 0 → parseFieldDescriptor (TJx2cfe8 k).2.2.1 = some (tyJx2cfe8 k) := by decide +kernel
def RJx9f9b0 : String := "java/lang/CharSequence"
def TJx9f9b0 : u_T := fun k => match k with
  | _ => ("", "", "", false)
def tyJx9f9b0 : Nat → FieldType := fun k => match k with
  | _ => .int
theorem nmJx9f9b0 : ∀ a, a < 0 → ∀ b, b < 0 → a ≠ b → (TJx9f9b0 a).2.1 ≠ (TJx9f9b0 b).2.1 := by decide +kernel
theorem tyJx9f9b0_ok : ∀ k, k < 0 → parseFieldDescriptor (TJx9f9b0 k).2.2.1 = some (tyJx9f9b0 k) := by decide +kernel
def RJx8e188 : String := "java/lang/Cloneable"
def TJx8e188 : u_T := fun k => match k with
  | _ => ("", "", "", false)
def tyJx8e188 : Nat → FieldType := fun k => match k with
  | _ => .int
theorem nmJx8e188 : ∀ a, a < 0 → ∀ b, b < 0 → a ≠ b → (TJx8e188 a).2.1 ≠ (TJx8e188 b).2.1 := by decide +kernel
theorem tyJx8e188_ok : ∀ k, k < 0 → parseFieldDescriptor (TJx8e188 k).2.2.1 = some (tyJx8e188 k) := by decide +kernel
def RJxb160c : String := "java/lang/Comparable"
def TJxb160c : u_T := fun k => match k with
  | _ => ("", "", "", false)
def tyJxb160c : Nat → FieldType := fun k => match k with
  | _ => .int
theorem nmJxb160c : ∀ a, a < 0 → ∀ b, b < 0 → a ≠ b → (TJxb160c a).2.1 ≠ (TJxb160c b).2.1 := by decide +kernel
theorem tyJxb160c_ok : ∀ k, k < 0 → parseFieldDescriptor (TJxb160c k).2.2.1 = some (tyJxb160c k) := by decide +kernel
def RJxf58ca : String := "java/lang/Float"
def TJxf58ca : u_T := fun k => match k with
  | _ => ("", "", "", false)
def tyJxf58ca : Nat → FieldType := fun k => match k with
  | _ => .int
theorem nmJxf58ca : ∀ a, a < 0 → ∀ b, b < 0 → a ≠ b → (TJxf58ca a).2.1 ≠ (TJxf58ca b).2.1 := by decide +kernel
theorem tyJxf58ca_ok : ∀ k, k < 0 → parseFieldDescriptor (TJxf58ca k).2.2.1 = some (tyJxf58ca k) := by decide +kernel
def RJ6 : String := "java/lang/Integer"
def TJ6 : u_T := fun k => match k with
  | _ => ("", "", "", false)
def tyJ6 : Nat → FieldType := fun k => match k with
  | _ => .int
theorem nmJ6 : ∀ a, a < 0 → ∀ b, b < 0 → a ≠ b → (TJ6 a).2.1 ≠ (TJ6 b).2.1 := by decide +kernel
theorem tyJ6_ok : ∀ k, k < 0 → parseFieldDescriptor (TJ6 k).2.2.1 = some (tyJ6 k) := by decide +kernel
abbrev cJ6_getChars_ba4f3 : ByteArray := prog_24_method_12_code
def yJ6_getChars_ba4f3 : MethodName := ⟨RJ6, "getChars", "(II[B)I"⟩
abbrev cJ6_stringSize_0f7a4 : ByteArray := prog_24_method_13_code
def yJ6_stringSize_0f7a4 : MethodName := ⟨RJ6, "stringSize", "(I)I"⟩
abbrev cJ6_numberOfLeadingZeros_0f7a4 : ByteArray := prog_24_method_47_code
def yJ6_numberOfLeadingZeros_0f7a4 : MethodName := ⟨RJ6, "numberOfLeadingZeros", "(I)I"⟩
def RJ9 : String := "java/lang/Math"
def TJ9 : u_T := fun k => match k with
  | _ => ("", "", "", false)
def tyJ9 : Nat → FieldType := fun k => match k with
  | _ => .int
theorem nmJ9 : ∀ a, a < 0 → ∀ b, b < 0 → a ≠ b → (TJ9 a).2.1 ≠ (TJ9 b).2.1 := by decide +kernel
theorem tyJ9_ok : ∀ k, k < 0 → parseFieldDescriptor (TJ9 k).2.2.1 = some (tyJ9 k) := by decide +kernel
abbrev cJ9_multiplyHigh_f86c9 : ByteArray := prog_25_method_45_code
def yJ9_multiplyHigh_f86c9 : MethodName := ⟨RJ9, "multiplyHigh", "(JJ)J"⟩
abbrev cJ9_floorDiv_7cf53 : ByteArray := prog_25_method_47_code
def yJ9_floorDiv_7cf53 : MethodName := ⟨RJ9, "floorDiv", "(II)I"⟩
abbrev cJ9_abs_0f7a4 : ByteArray := prog_25_method_59_code
def yJ9_abs_0f7a4 : MethodName := ⟨RJ9, "abs", "(I)I"⟩
abbrev cJ9_max_7cf53 : ByteArray := prog_25_method_65_code
def yJ9_max_7cf53 : MethodName := ⟨RJ9, "max", "(II)I"⟩
abbrev cJ9_min_7cf53 : ByteArray := prog_25_method_69_code
def yJ9_min_7cf53 : MethodName := ⟨RJ9, "min", "(II)I"⟩
def RJxd2413 : String := "java/lang/Number"
def TJxd2413 : u_T := fun k => match k with
  | _ => ("", "", "", false)
def tyJxd2413 : Nat → FieldType := fun k => match k with
  | _ => .int
theorem nmJxd2413 : ∀ a, a < 0 → ∀ b, b < 0 → a ≠ b → (TJxd2413 a).2.1 ≠ (TJxd2413 b).2.1 := by decide +kernel
theorem tyJxd2413_ok : ∀ k, k < 0 → parseFieldDescriptor (TJxd2413 k).2.2.1 = some (tyJxd2413 k) := by decide +kernel
def RJ0 : String := "java/lang/String"
def TJ0 : u_T := fun k => match k with
  | 0 => ("java/lang/String", "value", "[B", true)
  | 1 => ("java/lang/String", "coder", "B", true)
  | 2 => ("java/lang/String", "hash", "I", false)
  | _ => ("java/lang/String", "hashIsZero", "Z", false)
def tyJ0 : Nat → FieldType := fun k => match k with
  | 0 => .array .byte
  | 1 => .byte
  | 2 => .int
  | _ => .boolean
theorem nmJ0 : ∀ a, a < 4 → ∀ b, b < 4 → a ≠ b → (TJ0 a).2.1 ≠ (TJ0 b).2.1 := by decide +kernel
theorem tyJ0_ok : ∀ k, k < 4 → parseFieldDescriptor (TJ0 k).2.2.1 = some (tyJ0 k) := by decide +kernel
abbrev cJ0_init_81219 : ByteArray := prog_28_method_53_code
def yJ0_init_81219 : MethodName := ⟨RJ0, "<init>", "(Ljava/lang/StringBuilder;)V"⟩
abbrev cJ0_length_8abf5 : ByteArray := prog_28_method_54_code
def yJ0_length_8abf5 : MethodName := ⟨RJ0, "length", "()I"⟩
abbrev cJ0_charAt_5068e : ByteArray := prog_28_method_56_code
def yJ0_charAt_5068e : MethodName := ⟨RJ0, "charAt", "(I)C"⟩
abbrev cJ0_equals_9ea2d : ByteArray := prog_28_method_66_code
def yJ0_equals_9ea2d : MethodName := ⟨RJ0, "equals", "(Ljava/lang/Object;)Z"⟩
abbrev cJ0_getBytes_840e7 : ByteArray := prog_28_method_147_code
def yJ0_getBytes_840e7 : MethodName := ⟨RJ0, "getBytes", "([BIB)V"⟩
abbrev cJ0_init_db425 : ByteArray := prog_28_method_150_code
def yJ0_init_db425 : MethodName := ⟨RJ0, "<init>", "(Ljava/lang/AbstractStringBuilder;Ljava/lang/Void;)V"⟩
abbrev cJ0_coder_7d493 : ByteArray := prog_28_method_152_code
def yJ0_coder_7d493 : MethodName := ⟨RJ0, "coder", "()B"⟩
abbrev cJ0_value_6d5f1 : ByteArray := prog_28_method_153_code
def yJ0_value_6d5f1 : MethodName := ⟨RJ0, "value", "()[B"⟩
abbrev cJ0_isLatin1_aae02 : ByteArray := prog_28_method_154_code
def yJ0_isLatin1_aae02 : MethodName := ⟨RJ0, "isLatin1", "()Z"⟩
abbrev cJ0_checkIndex_df160 : ByteArray := prog_28_method_155_code
def yJ0_checkIndex_df160 : MethodName := ⟨RJ0, "checkIndex", "(II)V"⟩
abbrev cJ0_checkBoundsOffCount_cabcc : ByteArray := prog_28_method_157_code
def yJ0_checkBoundsOffCount_cabcc : MethodName := ⟨RJ0, "checkBoundsOffCount", "(III)I"⟩
abbrev cJ0_checkBoundsBeginEnd_23922 : ByteArray := prog_28_method_158_code
def yJ0_checkBoundsBeginEnd_23922 : MethodName := ⟨RJ0, "checkBoundsBeginEnd", "(III)V"⟩
def RJxe8eeb : String := "java/lang/StringBuffer"
def TJxe8eeb : u_T := fun k => match k with
  | _ => ("", "", "", false)
def tyJxe8eeb : Nat → FieldType := fun k => match k with
  | _ => .int
theorem nmJxe8eeb : ∀ a, a < 0 → ∀ b, b < 0 → a ≠ b → (TJxe8eeb a).2.1 ≠ (TJxe8eeb b).2.1 := by decide +kernel
theorem tyJxe8eeb_ok : ∀ k, k < 0 → parseFieldDescriptor (TJxe8eeb k).2.2.1 = some (tyJxe8eeb k) := by decide +kernel
abbrev cJxe8eeb_append_b568b : ByteArray := prog_29_method_24_code
def yJxe8eeb_append_b568b : MethodName := ⟨RJxe8eeb, "append", "([C)Ljava/lang/StringBuffer;"⟩
def RJ4 : String := "java/lang/StringBuilder"
def TJ4 : u_T := fun k => match k with
  | 0 => ("java/lang/AbstractStringBuilder", "value", "[B", false)
  | 1 => ("java/lang/AbstractStringBuilder", "coder", "B", false)
  | 2 => ("java/lang/AbstractStringBuilder", "maybeLatin1", "Z", false)
  | _ => ("java/lang/AbstractStringBuilder", "count", "I", false)
def tyJ4 : Nat → FieldType := fun k => match k with
  | 0 => .array .byte
  | 1 => .byte
  | 2 => .boolean
  | _ => .int
theorem nmJ4 : ∀ a, a < 4 → ∀ b, b < 4 → a ≠ b → (TJ4 a).2.1 ≠ (TJ4 b).2.1 := by decide +kernel
theorem tyJ4_ok : ∀ k, k < 4 → parseFieldDescriptor (TJ4 k).2.2.1 = some (tyJ4 k) := by decide +kernel
abbrev cJ4_init_da8c8 : ByteArray := prog_30_method_1_code
def yJ4_init_da8c8 : MethodName := ⟨RJ4, "<init>", "()V"⟩
abbrev cJ4_append_15ec4 : ByteArray := prog_30_method_7_code
def yJ4_append_15ec4 : MethodName := ⟨RJ4, "append", "(Ljava/lang/String;)Ljava/lang/StringBuilder;"⟩
abbrev cJ4_append_1fab5 : ByteArray := prog_30_method_9_code
def yJ4_append_1fab5 : MethodName := ⟨RJ4, "append", "(Ljava/lang/CharSequence;)Ljava/lang/StringBuilder;"⟩
abbrev cJ4_append_69d29 : ByteArray := prog_30_method_10_code
def yJ4_append_69d29 : MethodName := ⟨RJ4, "append", "(Ljava/lang/CharSequence;II)Ljava/lang/StringBuilder;"⟩
abbrev cJ4_append_37e8c : ByteArray := prog_30_method_11_code
def yJ4_append_37e8c : MethodName := ⟨RJ4, "append", "([C)Ljava/lang/StringBuilder;"⟩
abbrev cJ4_append_9f485 : ByteArray := prog_30_method_13_code
def yJ4_append_9f485 : MethodName := ⟨RJ4, "append", "(Z)Ljava/lang/StringBuilder;"⟩
abbrev cJ4_append_cf468 : ByteArray := prog_30_method_14_code
def yJ4_append_cf468 : MethodName := ⟨RJ4, "append", "(C)Ljava/lang/StringBuilder;"⟩
abbrev cJ4_append_bf812 : ByteArray := prog_30_method_15_code
def yJ4_append_bf812 : MethodName := ⟨RJ4, "append", "(I)Ljava/lang/StringBuilder;"⟩
abbrev cJ4_append_9d4c8 : ByteArray := prog_30_method_17_code
def yJ4_append_9d4c8 : MethodName := ⟨RJ4, "append", "(F)Ljava/lang/StringBuilder;"⟩
abbrev cJ4_toString_0e30d : ByteArray := prog_30_method_42_code
def yJ4_toString_0e30d : MethodName := ⟨RJ4, "toString", "()Ljava/lang/String;"⟩
abbrev cJ4_append_e1f22 : ByteArray := prog_30_method_77_code
def yJ4_append_e1f22 : MethodName := ⟨RJ4, "append", "(Ljava/lang/CharSequence;II)Ljava/lang/AbstractStringBuilder;"⟩
abbrev cJ4_append_cf1ce : ByteArray := prog_30_method_80_code
def yJ4_append_cf1ce : MethodName := ⟨RJ4, "append", "(Ljava/lang/String;)Ljava/lang/AbstractStringBuilder;"⟩
abbrev cJ4_charAt_5068e : ByteArray := prog_30_method_88_code
def yJ4_charAt_5068e : MethodName := ⟨RJ4, "charAt", "(I)C"⟩
abbrev cJ4_length_8abf5 : ByteArray := prog_30_method_93_code
def yJ4_length_8abf5 : MethodName := ⟨RJ4, "length", "()I"⟩
abbrev cJ4_append_b3078 : ByteArray := prog_30_method_94_code
def yJ4_append_b3078 : MethodName := ⟨RJ4, "append", "(C)Ljava/lang/Appendable;"⟩
abbrev cJ4_append_996db : ByteArray := prog_30_method_96_code
def yJ4_append_996db : MethodName := ⟨RJ4, "append", "(Ljava/lang/CharSequence;)Ljava/lang/Appendable;"⟩
def RJ1 : String := "java/lang/StringLatin1"
def TJ1 : u_T := fun k => match k with
  | _ => ("", "", "", false)
def tyJ1 : Nat → FieldType := fun k => match k with
  | _ => .int
theorem nmJ1 : ∀ a, a < 0 → ∀ b, b < 0 → a ≠ b → (TJ1 a).2.1 ≠ (TJ1 b).2.1 := by decide +kernel
theorem tyJ1_ok : ∀ k, k < 0 → parseFieldDescriptor (TJ1 k).2.2.1 = some (tyJ1 k) := by decide +kernel
abbrev cJ1_charAt_3b067 : ByteArray := prog_31_method_2_code
def yJ1_charAt_3b067 : MethodName := ⟨RJ1, "charAt", "([BI)C"⟩
abbrev cJ1_canEncode_fc78d : ByteArray := prog_31_method_3_code
def yJ1_canEncode_fc78d : MethodName := ⟨RJ1, "canEncode", "(C)Z"⟩
abbrev cJ1_equals_b5fdf : ByteArray := prog_31_method_13_code
def yJ1_equals_b5fdf : MethodName := ⟨RJ1, "equals", "([B[B)Z"⟩
abbrev cJ1_inflate_0e8fd : ByteArray := prog_31_method_50_code
def yJ1_inflate_0e8fd : MethodName := ⟨RJ1, "inflate", "([BI[BII)V"⟩
def RJ2 : String := "java/lang/StringUTF16"
def TJ2 : u_T := fun k => match k with
  | _ => ("", "", "", false)
def tyJ2 : Nat → FieldType := fun k => match k with
  | _ => .int
theorem nmJ2 : ∀ a, a < 0 → ∀ b, b < 0 → a ≠ b → (TJ2 a).2.1 ≠ (TJ2 b).2.1 := by decide +kernel
theorem tyJ2_ok : ∀ k, k < 0 → parseFieldDescriptor (TJ2 k).2.2.1 = some (tyJ2 k) := by decide +kernel
abbrev cJ2_newBytesFor_77867 : ByteArray := prog_32_method_2_code
def yJ2_newBytesFor_77867 : MethodName := ⟨RJ2, "newBytesFor", "(I)[B"⟩
abbrev cJ2_newBytesLength_0f7a4 : ByteArray := prog_32_method_3_code
def yJ2_newBytesLength_0f7a4 : MethodName := ⟨RJ2, "newBytesLength", "(I)I"⟩
abbrev cJ2_putChar_b72d1 : ByteArray := prog_32_method_4_code
def yJ2_putChar_b72d1 : MethodName := ⟨RJ2, "putChar", "([BII)V"⟩
abbrev cJ2_getChar_3b067 : ByteArray := prog_32_method_5_code
def yJ2_getChar_3b067 : MethodName := ⟨RJ2, "getChar", "([BI)C"⟩
abbrev cJ2_length_9d52b : ByteArray := prog_32_method_6_code
def yJ2_length_9d52b : MethodName := ⟨RJ2, "length", "([B)I"⟩
abbrev cJ2_coderFromArrayLen_85cad : ByteArray := prog_32_method_15_code
def yJ2_coderFromArrayLen_85cad : MethodName := ⟨RJ2, "coderFromArrayLen", "([BI)B"⟩
abbrev cJ2_compress_39247 : ByteArray := prog_32_method_17_code
def yJ2_compress_39247 : MethodName := ⟨RJ2, "compress", "([BII)[B"⟩
abbrev cJ2_compress_5af95 : ByteArray := prog_32_method_22_code
def yJ2_compress_5af95 : MethodName := ⟨RJ2, "compress", "([BI[BII)I"⟩
abbrev cJ2_putChars_03870 : ByteArray := prog_32_method_68_code
def yJ2_putChars_03870 : MethodName := ⟨RJ2, "putChars", "([BI[CII)V"⟩
abbrev cJ2_putCharSB_b72d1 : ByteArray := prog_32_method_71_code
def yJ2_putCharSB_b72d1 : MethodName := ⟨RJ2, "putCharSB", "([BII)V"⟩
abbrev cJ2_putCharsSB_03870 : ByteArray := prog_32_method_72_code
def yJ2_putCharsSB_03870 : MethodName := ⟨RJ2, "putCharsSB", "([BI[CII)V"⟩
abbrev cJ2_putCharsSB_8fd6a : ByteArray := prog_32_method_73_code
def yJ2_putCharsSB_8fd6a : MethodName := ⟨RJ2, "putCharsSB", "([BILjava/lang/CharSequence;II)V"⟩
abbrev cJ2_getChars_46870 : ByteArray := prog_32_method_77_code
def yJ2_getChars_46870 : MethodName := ⟨RJ2, "getChars", "(III[B)I"⟩
abbrev cJ2_putCharsAt_cd4e5 : ByteArray := prog_32_method_81_code
def yJ2_putCharsAt_cd4e5 : MethodName := ⟨RJ2, "putCharsAt", "([BICCCC)I"⟩
abbrev cJ2_putCharsAt_1b622 : ByteArray := prog_32_method_82_code
def yJ2_putCharsAt_1b622 : MethodName := ⟨RJ2, "putCharsAt", "([BICCCCC)I"⟩
abbrev cJ2_charAt_3b067 : ByteArray := prog_32_method_83_code
def yJ2_charAt_3b067 : MethodName := ⟨RJ2, "charAt", "([BI)C"⟩
abbrev cJ2_inflate_0e8fd : ByteArray := prog_32_method_86_code
def yJ2_inflate_0e8fd : MethodName := ⟨RJ2, "inflate", "([BI[BII)V"⟩
abbrev cJ2_getChars_ba4f3 : ByteArray := prog_32_method_89_code
def yJ2_getChars_ba4f3 : MethodName := ⟨RJ2, "getChars", "(II[B)I"⟩
abbrev cJ2_checkIndex_2214a : ByteArray := prog_32_method_91_code
def yJ2_checkIndex_2214a : MethodName := ⟨RJ2, "checkIndex", "(I[B)V"⟩
abbrev cJ2_checkBoundsBeginEnd_d044e : ByteArray := prog_32_method_93_code
def yJ2_checkBoundsBeginEnd_d044e : MethodName := ⟨RJ2, "checkBoundsBeginEnd", "(II[B)V"⟩
abbrev cJ2_checkBoundsOffCount_d044e : ByteArray := prog_32_method_94_code
def yJ2_checkBoundsOffCount_d044e : MethodName := ⟨RJ2, "checkBoundsOffCount", "(II[B)V"⟩
def RJ10 : String := "java/lang/System"
def TJ10 : u_T := fun k => match k with
  | _ => ("", "", "", false)
def tyJ10 : Nat → FieldType := fun k => match k with
  | _ => .int
theorem nmJ10 : ∀ a, a < 0 → ∀ b, b < 0 → a ≠ b → (TJ10 a).2.1 ≠ (TJ10 b).2.1 := by decide +kernel
theorem tyJ10_ok : ∀ k, k < 0 → parseFieldDescriptor (TJ10 k).2.2.1 = some (tyJ10 k) := by decide +kernel
def RJxfd54e : String := "java/lang/constant/Constable"
def TJxfd54e : u_T := fun k => match k with
  | _ => ("", "", "", false)
def tyJxfd54e : Nat → FieldType := fun k => match k with
  | _ => .int
theorem nmJxfd54e : ∀ a, a < 0 → ∀ b, b < 0 → a ≠ b → (TJxfd54e a).2.1 ≠ (TJxfd54e b).2.1 := by decide +kernel
theorem tyJxfd54e_ok : ∀ k, k < 0 → parseFieldDescriptor (TJxfd54e k).2.2.1 = some (tyJxfd54e k) := by decide +kernel
def RJx3cf43 : String := "java/lang/constant/ConstantDesc"
def TJx3cf43 : u_T := fun k => match k with
  | _ => ("", "", "", false)
def tyJx3cf43 : Nat → FieldType := fun k => match k with
  | _ => .int
theorem nmJx3cf43 : ∀ a, a < 0 → ∀ b, b < 0 → a ≠ b → (TJx3cf43 a).2.1 ≠ (TJx3cf43 b).2.1 := by decide +kernel
theorem tyJx3cf43_ok : ∀ k, k < 0 → parseFieldDescriptor (TJx3cf43 k).2.2.1 = some (tyJx3cf43 k) := by decide +kernel
def RJ7 : String := "java/util/Arrays"
def TJ7 : u_T := fun k => match k with
  | _ => ("", "", "", false)
def tyJ7 : Nat → FieldType := fun k => match k with
  | _ => .int
theorem nmJ7 : ∀ a, a < 0 → ∀ b, b < 0 → a ≠ b → (TJ7 a).2.1 ≠ (TJ7 b).2.1 := by decide +kernel
theorem tyJ7_ok : ∀ k, k < 0 → parseFieldDescriptor (TJ7 k).2.2.1 = some (tyJ7 k) := by decide +kernel
abbrev cJ7_fill_53178 : ByteArray := prog_37_method_103_code
def yJ7_fill_53178 : MethodName := ⟨RJ7, "fill", "([II)V"⟩
abbrev cJ7_copyOf_9075b : ByteArray := prog_37_method_121_code
def yJ7_copyOf_9075b : MethodName := ⟨RJ7, "copyOf", "([BI)[B"⟩
abbrev cJ7_copyOf_59c91 : ByteArray := prog_37_method_123_code
def yJ7_copyOf_59c91 : MethodName := ⟨RJ7, "copyOf", "([II)[I"⟩
abbrev cJ7_checkLength_df160 : ByteArray := prog_37_method_131_code
def yJ7_checkLength_df160 : MethodName := ⟨RJ7, "checkLength", "(II)V"⟩
abbrev cJ7_copyOfRange_39247 : ByteArray := prog_37_method_132_code
def yJ7_copyOfRange_39247 : MethodName := ⟨RJ7, "copyOfRange", "([BII)[B"⟩
abbrev cJ7_copyOfRangeByte_39247 : ByteArray := prog_37_method_133_code
def yJ7_copyOfRangeByte_39247 : MethodName := ⟨RJ7, "copyOfRangeByte", "([BII)[B"⟩
def RJx40b00 : String := "jdk/internal/math/FloatToDecimal"
def TJx40b00 : u_T := fun k => match k with
  | 0 => ("jdk/internal/math/FloatToDecimal", "bytes", "[B", true)
  | _ => ("jdk/internal/math/FloatToDecimal", "index", "I", false)
def tyJx40b00 : Nat → FieldType := fun k => match k with
  | 0 => .array .byte
  | _ => .int
theorem nmJx40b00 : ∀ a, a < 2 → ∀ b, b < 2 → a ≠ b → (TJx40b00 a).2.1 ≠ (TJx40b00 b).2.1 := by decide +kernel
theorem tyJx40b00_ok : ∀ k, k < 2 → parseFieldDescriptor (TJx40b00 k).2.2.1 = some (tyJx40b00 k) := by decide +kernel
abbrev cJx40b00_init_da8c8 : ByteArray := prog_39_method_1_code
def yJx40b00_init_da8c8 : MethodName := ⟨RJx40b00, "<init>", "()V"⟩
abbrev cJx40b00_appendTo_8d9f2 : ByteArray := prog_39_method_3_code
def yJx40b00_appendTo_8d9f2 : MethodName := ⟨RJx40b00, "appendTo", "(FLjava/lang/Appendable;)Ljava/lang/Appendable;"⟩
abbrev cJx40b00_appendDecimalTo_8d9f2 : ByteArray := prog_39_method_5_code
def yJx40b00_appendDecimalTo_8d9f2 : MethodName := ⟨RJx40b00, "appendDecimalTo", "(FLjava/lang/Appendable;)Ljava/lang/Appendable;"⟩
abbrev cJx40b00_toDecimal_5c35a : ByteArray := prog_39_method_6_code
def yJx40b00_toDecimal_5c35a : MethodName := ⟨RJx40b00, "toDecimal", "(F)I"⟩
abbrev cJx40b00_toDecimal_cabcc : ByteArray := prog_39_method_7_code
def yJx40b00_toDecimal_cabcc : MethodName := ⟨RJx40b00, "toDecimal", "(III)I"⟩
abbrev cJx40b00_rop_74951 : ByteArray := prog_39_method_8_code
def yJx40b00_rop_74951 : MethodName := ⟨RJx40b00, "rop", "(JJ)I"⟩
abbrev cJx40b00_toChars_7cf53 : ByteArray := prog_39_method_9_code
def yJx40b00_toChars_7cf53 : MethodName := ⟨RJx40b00, "toChars", "(II)I"⟩
abbrev cJx40b00_toChars1_cabcc : ByteArray := prog_39_method_10_code
def yJx40b00_toChars1_cabcc : MethodName := ⟨RJx40b00, "toChars1", "(III)I"⟩
abbrev cJx40b00_toChars2_cabcc : ByteArray := prog_39_method_11_code
def yJx40b00_toChars2_cabcc : MethodName := ⟨RJx40b00, "toChars2", "(III)I"⟩
abbrev cJx40b00_toChars3_cabcc : ByteArray := prog_39_method_12_code
def yJx40b00_toChars3_cabcc : MethodName := ⟨RJx40b00, "toChars3", "(III)I"⟩
abbrev cJx40b00_append8Digits_d00df : ByteArray := prog_39_method_13_code
def yJx40b00_append8Digits_d00df : MethodName := ⟨RJx40b00, "append8Digits", "(I)V"⟩
abbrev cJx40b00_removeTrailingZeroes_da8c8 : ByteArray := prog_39_method_14_code
def yJx40b00_removeTrailingZeroes_da8c8 : MethodName := ⟨RJx40b00, "removeTrailingZeroes", "()V"⟩
abbrev cJx40b00_y_0f7a4 : ByteArray := prog_39_method_15_code
def yJx40b00_y_0f7a4 : MethodName := ⟨RJx40b00, "y", "(I)I"⟩
abbrev cJx40b00_exponent_d00df : ByteArray := prog_39_method_16_code
def yJx40b00_exponent_d00df : MethodName := ⟨RJx40b00, "exponent", "(I)V"⟩
abbrev cJx40b00_append_d00df : ByteArray := prog_39_method_17_code
def yJx40b00_append_d00df : MethodName := ⟨RJx40b00, "append", "(I)V"⟩
abbrev cJx40b00_appendDigit_d00df : ByteArray := prog_39_method_18_code
def yJx40b00_appendDigit_d00df : MethodName := ⟨RJx40b00, "appendDigit", "(I)V"⟩
def RJx25f51 : String := "jdk/internal/math/MathUtils"
def TJx25f51 : u_T := fun k => match k with
  | _ => ("", "", "", false)
def tyJx25f51 : Nat → FieldType := fun k => match k with
  | _ => .int
theorem nmJx25f51 : ∀ a, a < 0 → ∀ b, b < 0 → a ≠ b → (TJx25f51 a).2.1 ≠ (TJx25f51 b).2.1 := by decide +kernel
theorem tyJx25f51_ok : ∀ k, k < 0 → parseFieldDescriptor (TJx25f51 k).2.2.1 = some (tyJx25f51 k) := by decide +kernel
abbrev cJx25f51_pow10_3e8ac : ByteArray := prog_40_method_2_code
def yJx25f51_pow10_3e8ac : MethodName := ⟨RJx25f51, "pow10", "(I)J"⟩
abbrev cJx25f51_flog10pow2_0f7a4 : ByteArray := prog_40_method_3_code
def yJx25f51_flog10pow2_0f7a4 : MethodName := ⟨RJx25f51, "flog10pow2", "(I)I"⟩
abbrev cJx25f51_flog10threeQuartersPow2_0f7a4 : ByteArray := prog_40_method_4_code
def yJx25f51_flog10threeQuartersPow2_0f7a4 : MethodName := ⟨RJx25f51, "flog10threeQuartersPow2", "(I)I"⟩
abbrev cJx25f51_flog2pow10_0f7a4 : ByteArray := prog_40_method_5_code
def yJx25f51_flog2pow10_0f7a4 : MethodName := ⟨RJx25f51, "flog2pow10", "(I)I"⟩
abbrev cJx25f51_g1_3e8ac : ByteArray := prog_40_method_6_code
def yJx25f51_g1_3e8ac : MethodName := ⟨RJx25f51, "g1", "(I)J"⟩
def RJ8 : String := "jdk/internal/util/ArraysSupport"
def TJ8 : u_T := fun k => match k with
  | _ => ("", "", "", false)
def tyJ8 : Nat → FieldType := fun k => match k with
  | _ => .int
theorem nmJ8 : ∀ a, a < 0 → ∀ b, b < 0 → a ≠ b → (TJ8 a).2.1 ≠ (TJ8 b).2.1 := by decide +kernel
theorem tyJ8_ok : ∀ k, k < 0 → parseFieldDescriptor (TJ8 k).2.2.1 = some (tyJ8 k) := by decide +kernel
abbrev cJ8_newLength_cabcc : ByteArray := prog_41_method_27_code
def yJ8_newLength_cabcc : MethodName := ⟨RJ8, "newLength", "(III)I"⟩
abbrev cJ8_hugeLength_7cf53 : ByteArray := prog_41_method_28_code
def yJ8_hugeLength_7cf53 : MethodName := ⟨RJ8, "hugeLength", "(II)I"⟩
def RJ3 : String := "jdk/internal/util/Preconditions"
def TJ3 : u_T := fun k => match k with
  | _ => ("", "", "", false)
def tyJ3 : Nat → FieldType := fun k => match k with
  | _ => .int
theorem nmJ3 : ∀ a, a < 0 → ∀ b, b < 0 → a ≠ b → (TJ3 a).2.1 ≠ (TJ3 b).2.1 := by decide +kernel
theorem tyJ3_ok : ∀ k, k < 0 → parseFieldDescriptor (TJ3 k).2.2.1 = some (tyJ3 k) := by decide +kernel
abbrev cJ3_checkIndex_8e157 : ByteArray := prog_42_method_11_code
def yJ3_checkIndex_8e157 : MethodName := ⟨RJ3, "checkIndex", "(IILjava/util/function/BiFunction;)I"⟩
abbrev cJ3_checkFromToIndex_8c36e : ByteArray := prog_42_method_12_code
def yJ3_checkFromToIndex_8c36e : MethodName := ⟨RJ3, "checkFromToIndex", "(IIILjava/util/function/BiFunction;)I"⟩
abbrev cJ3_checkFromIndexSize_8c36e : ByteArray := prog_42_method_13_code
def yJ3_checkFromIndexSize_8c36e : MethodName := ⟨RJ3, "checkFromIndexSize", "(IIILjava/util/function/BiFunction;)I"⟩
def RL : String := "PixelPressLaw"
abbrev cL_cell : ByteArray := method_2_code
def yL_cell : MethodName := ⟨RL, "cell", "([II)I"⟩
abbrev cL_resize : ByteArray := method_3_code
def yL_resize : MethodName := ⟨RL, "resize", "(LPixelPress;II)I"⟩
abbrev cL_set : ByteArray := method_4_code
def yL_set : MethodName := ⟨RL, "set", "(LPixelPress;III)I"⟩
abbrev cL_fill : ByteArray := method_5_code
def yL_fill : MethodName := ⟨RL, "fill", "(LPixelPress;IIIII)I"⟩
abbrev cL_ramp : ByteArray := method_6_code
def yL_ramp : MethodName := ⟨RL, "ramp", "(LPixelPress;III)I"⟩
abbrev cL_pixel : ByteArray := method_7_code
def yL_pixel : MethodName := ⟨RL, "pixel", "(LPixelPress;II)I"⟩
abbrev cL_setSteps : ByteArray := method_8_code
def yL_setSteps : MethodName := ⟨RL, "setSteps", "(LPixelPress;III)I"⟩
abbrev cL_byteAt : ByteArray := method_9_code
def yL_byteAt : MethodName := ⟨RL, "byteAt", "(LPixelPress;I)I"⟩
abbrev cL_setByte : ByteArray := method_10_code
def yL_setByte : MethodName := ⟨RL, "setByte", "(LPixelPress;II)I"⟩
abbrev cL_cut : ByteArray := method_11_code
def yL_cut : MethodName := ⟨RL, "cut", "(LPixelPress;I)I"⟩
abbrev cL_decode : ByteArray := method_12_code
def yL_decode : MethodName := ⟨RL, "decode", "(LPixelPress;I)I"⟩
abbrev cL_decodedWidth : ByteArray := method_13_code
def yL_decodedWidth : MethodName := ⟨RL, "decodedWidth", "(LPixelPress;)I"⟩
abbrev cL_decodedHeight : ByteArray := method_14_code
def yL_decodedHeight : MethodName := ⟨RL, "decodedHeight", "(LPixelPress;)I"⟩
abbrev cL_decodedPixel : ByteArray := method_15_code
def yL_decodedPixel : MethodName := ⟨RL, "decodedPixel", "(LPixelPress;II)I"⟩
abbrev cL_fault : ByteArray := method_16_code
def yL_fault : MethodName := ⟨RL, "fault", "(LPixelPress;I)I"⟩
abbrev cL_layersUsed : ByteArray := method_17_code
def yL_layersUsed : MethodName := ⟨RL, "layersUsed", "(LPixelPress;I)I"⟩
abbrev cL_isSame : ByteArray := method_18_code
def yL_isSame : MethodName := ⟨RL, "isSame", "(LPixelPress;)I"⟩
abbrev cL_squaredError : ByteArray := method_19_code
def yL_squaredError : MethodName := ⟨RL, "squaredError", "(LPixelPress;)I"⟩
abbrev cL_greatestError : ByteArray := method_20_code
def yL_greatestError : MethodName := ⟨RL, "greatestError", "(LPixelPress;)I"⟩
abbrev cL_blocks : ByteArray := method_21_code
def yL_blocks : MethodName := ⟨RL, "blocks", "(LPixelPress;I)I"⟩
abbrev cL_blockSize : ByteArray := method_22_code
def yL_blockSize : MethodName := ⟨RL, "blockSize", "(LPixelPress;III)I"⟩
abbrev cL_mode : ByteArray := method_23_code
def yL_mode : MethodName := ⟨RL, "mode", "(LPixelPress;III)I"⟩
abbrev cL_level : ByteArray := method_24_code
def yL_level : MethodName := ⟨RL, "level", "(LPixelPress;III)I"⟩
abbrev cL_cost : ByteArray := method_25_code
def yL_cost : MethodName := ⟨RL, "cost", "(LPixelPress;III)I"⟩
abbrev cL_partSize : ByteArray := method_26_code
def yL_partSize : MethodName := ⟨RL, "partSize", "(LPixelPress;II)I"⟩
abbrev cL_ratio : ByteArray := method_27_code
def yL_ratio : MethodName := ⟨RL, "ratio", "(LPixelPress;)F"⟩
abbrev cL_digits : ByteArray := method_28_code
def yL_digits : MethodName := ⟨RL, "digits", "(I)I"⟩
abbrev cL_layers : ByteArray := method_29_code
def yL_layers : MethodName := ⟨RL, "layers", "(LPixelPress;)I"⟩
abbrev cL_acts : ByteArray := method_30_code
def yL_acts : MethodName := ⟨RL, "acts", "(LPixelPress;ILPixelPressLaw$Draw;)I"⟩
abbrev cL_told : ByteArray := method_31_code
def yL_told : MethodName := ⟨RL, "told", "(LPixelPress;)Ljava/lang/String;"⟩
abbrev cL_coded : ByteArray := method_32_code
def yL_coded : MethodName := ⟨RL, "coded", "(LPixelPress;)Z"⟩
abbrev cL_costs : ByteArray := method_33_code
def yL_costs : MethodName := ⟨RL, "costs", "(LPixelPress;I)Z"⟩
abbrev cL_plain : ByteArray := method_34_code
def yL_plain : MethodName := ⟨RL, "plain", "(LPixelPress;)Z"⟩
abbrev cL_damaged : ByteArray := method_35_code
def yL_damaged : MethodName := ⟨RL, "damaged", "(LPixelPress;LPixelPressLaw$Draw;)Z"⟩
abbrev cL_row : ByteArray := method_36_code
def yL_row : MethodName := ⟨RL, "row", "(LPixelPress;)[I"⟩
abbrev cL_law : ByteArray := code
def yL_law : MethodName := ⟨RL, "law", "([I)Z"⟩
abbrev vwCl : List vw_C := [(RX1, TX1, 8), (RX2, TX2, 7), (RX3, TX3, 2), (RX4, TX4, 10), (RX5, TX5, 3), (RX6, TX6, 4), (RX7, TX7, 2), (RX8, TX8, 18), (RX9, TX9, 1), (RJ0, TJ0, 4), (RJ4, TJ4, 4), (RJx40b00, TJx40b00, 2)]
