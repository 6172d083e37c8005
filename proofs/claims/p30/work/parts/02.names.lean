def RX0 : String := "KeyStage$Clip"
def TX0 : u_T := fun k => match k with
  | 0 => ("KeyStage$Clip", "length", "I", false)
  | 1 => ("KeyStage$Clip", "tracks", "[LKeyStage$Track;", true)
  | 2 => ("KeyStage$Clip", "cueTimes", "LKeyStage$Row;", true)
  | _ => ("KeyStage$Clip", "cueNumbers", "LKeyStage$Row;", true)
def tyX0 : Nat → FieldType := fun k => match k with
  | 0 => .int
  | 1 => .array (.object "KeyStage$Track")
  | 2 => .object "KeyStage$Row"
  | _ => .object "KeyStage$Row"
abbrev wsX00 : List Cond := u_ws RX0 TX0 4
theorem nmX0 : ∀ a, a < 4 → ∀ b, b < 4 → a ≠ b → (TX0 a).2.1 ≠ (TX0 b).2.1 := by decide +kernel
theorem tyX0_ok : ∀ k, k < 4 → parseFieldDescriptor (TX0 k).2.2.1 = some (tyX0 k) := by decide +kernel
abbrev cX0_init : ByteArray := prog_2_method_1_code
def yX0_init : MethodName := ⟨RX0, "<init>", "(I)V"⟩
abbrev cX0_trackOrNull : ByteArray := prog_2_method_2_code
def yX0_trackOrNull : MethodName := ⟨RX0, "trackOrNull", "(I)LKeyStage$Track;"⟩
abbrev cX0_cueCount : ByteArray := prog_2_method_4_code
def yX0_cueCount : MethodName := ⟨RX0, "cueCount", "()I"⟩
abbrev cX0_layCue : ByteArray := prog_2_method_6_code
def yX0_layCue : MethodName := ⟨RX0, "layCue", "(II)V"⟩
abbrev cX0_turnAround : ByteArray := prog_2_method_7_code
def yX0_turnAround : MethodName := ⟨RX0, "turnAround", "()V"⟩
def RX1 : String := "KeyStage$Notes"
def TX1 : u_T := fun k => match k with
  | 0 => ("KeyStage$Notes", "times", "LKeyStage$Row;", true)
  | 1 => ("KeyStage$Notes", "strips", "LKeyStage$Row;", true)
  | 2 => ("KeyStage$Notes", "rounds", "LKeyStage$Row;", true)
  | 3 => ("KeyStage$Notes", "numbers", "LKeyStage$Row;", true)
  | _ => ("KeyStage$Notes", "count", "I", false)
def tyX1 : Nat → FieldType := fun k => match k with
  | 0 => .object "KeyStage$Row"
  | 1 => .object "KeyStage$Row"
  | 2 => .object "KeyStage$Row"
  | 3 => .object "KeyStage$Row"
  | _ => .int
abbrev wsX10 : List Cond := u_ws RX1 TX1 5
theorem nmX1 : ∀ a, a < 5 → ∀ b, b < 5 → a ≠ b → (TX1 a).2.1 ≠ (TX1 b).2.1 := by decide +kernel
theorem tyX1_ok : ∀ k, k < 5 → parseFieldDescriptor (TX1 k).2.2.1 = some (tyX1 k) := by decide +kernel
abbrev cX1_init : ByteArray := prog_3_method_1_code
def yX1_init : MethodName := ⟨RX1, "<init>", "()V"⟩
abbrev cX1_keptCount : ByteArray := prog_3_method_2_code
def yX1_keptCount : MethodName := ⟨RX1, "keptCount", "()I"⟩
abbrev cX1_clear : ByteArray := prog_3_method_3_code
def yX1_clear : MethodName := ⟨RX1, "clear", "()V"⟩
abbrev cX1_shorten : ByteArray := prog_3_method_4_code
def yX1_shorten : MethodName := ⟨RX1, "shorten", "(I)V"⟩
abbrev cX1_note : ByteArray := prog_3_method_5_code
def yX1_note : MethodName := ⟨RX1, "note", "(IIII)V"⟩
abbrev cX1_fact : ByteArray := prog_3_method_6_code
def yX1_fact : MethodName := ⟨RX1, "fact", "(II)I"⟩
def RX2 : String := "KeyStage$Row"
def TX2 : u_T := fun k => match k with
  | 0 => ("KeyStage$Row", "cells", "[I", true)
  | _ => ("KeyStage$Row", "size", "I", false)
def tyX2 : Nat → FieldType := fun k => match k with
  | 0 => .array .int
  | _ => .int
abbrev wsX20 : List Cond := u_ws RX2 TX2 2
theorem nmX2 : ∀ a, a < 2 → ∀ b, b < 2 → a ≠ b → (TX2 a).2.1 ≠ (TX2 b).2.1 := by decide +kernel
theorem tyX2_ok : ∀ k, k < 2 → parseFieldDescriptor (TX2 k).2.2.1 = some (tyX2 k) := by decide +kernel
abbrev cX2_init : ByteArray := prog_4_method_1_code
def yX2_init : MethodName := ⟨RX2, "<init>", "(I)V"⟩
abbrev cX2_size : ByteArray := prog_4_method_2_code
def yX2_size : MethodName := ⟨RX2, "size", "()I"⟩
abbrev cX2_isCell : ByteArray := prog_4_method_3_code
def yX2_isCell : MethodName := ⟨RX2, "isCell", "(I)Z"⟩
abbrev cX2_get : ByteArray := prog_4_method_4_code
def yX2_get : MethodName := ⟨RX2, "get", "(I)I"⟩
abbrev cX2_set : ByteArray := prog_4_method_5_code
def yX2_set : MethodName := ⟨RX2, "set", "(II)V"⟩
abbrev cX2_append : ByteArray := prog_4_method_6_code
def yX2_append : MethodName := ⟨RX2, "append", "(I)V"⟩
abbrev cX2_insert : ByteArray := prog_4_method_7_code
def yX2_insert : MethodName := ⟨RX2, "insert", "(II)V"⟩
abbrev cX2_delete : ByteArray := prog_4_method_8_code
def yX2_delete : MethodName := ⟨RX2, "delete", "(I)V"⟩
abbrev cX2_shorten : ByteArray := prog_4_method_9_code
def yX2_shorten : MethodName := ⟨RX2, "shorten", "(I)V"⟩
abbrev cX2_reverse : ByteArray := prog_4_method_10_code
def yX2_reverse : MethodName := ⟨RX2, "reverse", "()V"⟩
abbrev cX2_countUpTo : ByteArray := prog_4_method_11_code
def yX2_countUpTo : MethodName := ⟨RX2, "countUpTo", "(I)I"⟩
abbrev cX2_mirrorTimes : ByteArray := prog_4_method_12_code
def yX2_mirrorTimes : MethodName := ⟨RX2, "mirrorTimes", "(I)V"⟩
def RX3 : String := "KeyStage$Strip"
def TX3 : u_T := fun k => match k with
  | 0 => ("KeyStage$Strip", "clip", "LKeyStage$Clip;", true)
  | 1 => ("KeyStage$Strip", "clipNumber", "I", true)
  | 2 => ("KeyStage$Strip", "start", "I", true)
  | 3 => ("KeyStage$Strip", "rounds", "I", true)
  | 4 => ("KeyStage$Strip", "way", "I", true)
  | 5 => ("KeyStage$Strip", "p", "I", false)
  | 6 => ("KeyStage$Strip", "q", "I", false)
  | 7 => ("KeyStage$Strip", "layer", "I", false)
  | 8 => ("KeyStage$Strip", "weight", "I", false)
  | 9 => ("KeyStage$Strip", "isAdded", "Z", false)
  | 10 => ("KeyStage$Strip", "isHeld", "Z", false)
  | 11 => ("KeyStage$Strip", "fadeIn", "I", false)
  | _ => ("KeyStage$Strip", "fadeOut", "I", false)
def tyX3 : Nat → FieldType := fun k => match k with
  | 0 => .object "KeyStage$Clip"
  | 1 => .int
  | 2 => .int
  | 3 => .int
  | 4 => .int
  | 5 => .int
  | 6 => .int
  | 7 => .int
  | 8 => .int
  | 9 => .boolean
  | 10 => .boolean
  | 11 => .int
  | _ => .int
abbrev wsX30 : List Cond := u_ws RX3 TX3 13
theorem nmX3 : ∀ a, a < 13 → ∀ b, b < 13 → a ≠ b → (TX3 a).2.1 ≠ (TX3 b).2.1 := by decide +kernel
theorem tyX3_ok : ∀ k, k < 13 → parseFieldDescriptor (TX3 k).2.2.1 = some (tyX3 k) := by decide +kernel
abbrev cX3_init : ByteArray := prog_5_method_1_code
def yX3_init : MethodName := ⟨RX3, "<init>", "(LKeyStage$Clip;IIII)V"⟩
abbrev cX3_ticks : ByteArray := prog_5_method_3_code
def yX3_ticks : MethodName := ⟨RX3, "ticks", "()I"⟩
abbrev cX3_timeOfTick : ByteArray := prog_5_method_4_code
def yX3_timeOfTick : MethodName := ⟨RX3, "timeOfTick", "(I)I"⟩
abbrev cX3_endTime : ByteArray := prog_5_method_5_code
def yX3_endTime : MethodName := ⟨RX3, "endTime", "()I"⟩
abbrev cX3_isOn : ByteArray := prog_5_method_6_code
def yX3_isOn : MethodName := ⟨RX3, "isOn", "(I)Z"⟩
abbrev cX3_isBackwards : ByteArray := prog_5_method_7_code
def yX3_isBackwards : MethodName := ⟨RX3, "isBackwards", "(I)Z"⟩
abbrev cX3_localTime : ByteArray := prog_5_method_8_code
def yX3_localTime : MethodName := ⟨RX3, "localTime", "(I)I"⟩
abbrev cX3_strength : ByteArray := prog_5_method_9_code
def yX3_strength : MethodName := ⟨RX3, "strength", "(I)I"⟩
abbrev cX3_blended : ByteArray := prog_5_method_10_code
def yX3_blended : MethodName := ⟨RX3, "blended", "(III)I"⟩
abbrev cX3_meetingTime : ByteArray := prog_5_method_11_code
def yX3_meetingTime : MethodName := ⟨RX3, "meetingTime", "(II)I"⟩
def RX4 : String := "KeyStage$Track"
def TX4 : u_T := fun k => match k with
  | 0 => ("KeyStage$Track", "times", "LKeyStage$Row;", true)
  | 1 => ("KeyStage$Track", "values", "LKeyStage$Row;", true)
  | _ => ("KeyStage$Track", "eases", "LKeyStage$Row;", true)
def tyX4 : Nat → FieldType := fun k => match k with
  | 0 => .object "KeyStage$Row"
  | 1 => .object "KeyStage$Row"
  | _ => .object "KeyStage$Row"
abbrev wsX40 : List Cond := u_ws RX4 TX4 3
theorem nmX4 : ∀ a, a < 3 → ∀ b, b < 3 → a ≠ b → (TX4 a).2.1 ≠ (TX4 b).2.1 := by decide +kernel
theorem tyX4_ok : ∀ k, k < 3 → parseFieldDescriptor (TX4 k).2.2.1 = some (tyX4 k) := by decide +kernel
abbrev cX4_init : ByteArray := prog_6_method_1_code
def yX4_init : MethodName := ⟨RX4, "<init>", "()V"⟩
abbrev cX4_count : ByteArray := prog_6_method_2_code
def yX4_count : MethodName := ⟨RX4, "count", "()I"⟩
abbrev cX4_fact : ByteArray := prog_6_method_3_code
def yX4_fact : MethodName := ⟨RX4, "fact", "(II)I"⟩
abbrev cX4_hasKeyAt : ByteArray := prog_6_method_4_code
def yX4_hasKeyAt : MethodName := ⟨RX4, "hasKeyAt", "(I)Z"⟩
abbrev cX4_lay : ByteArray := prog_6_method_5_code
def yX4_lay : MethodName := ⟨RX4, "lay", "(III)V"⟩
abbrev cX4_valueAt : ByteArray := prog_6_method_7_code
def yX4_valueAt : MethodName := ⟨RX4, "valueAt", "(I)I"⟩
abbrev cX4_valueBetween : ByteArray := prog_6_method_8_code
def yX4_valueBetween : MethodName := ⟨RX4, "valueBetween", "(III)I"⟩
abbrev cX4_turnAround : ByteArray := prog_6_method_9_code
def yX4_turnAround : MethodName := ⟨RX4, "turnAround", "(I)V"⟩
abbrev cX4_mirroredEase : ByteArray := prog_6_method_10_code
def yX4_mirroredEase : MethodName := ⟨RX4, "mirroredEase", "(I)I"⟩
def RX5 : String := "KeyStage"
def TX5 : u_T := fun k => match k with
  | 0 => ("KeyStage", "clips", "Ljava/util/ArrayList;", true)
  | 1 => ("KeyStage", "strips", "Ljava/util/ArrayList;", true)
  | 2 => ("KeyStage", "bases", "LKeyStage$Row;", true)
  | 3 => ("KeyStage", "layered", "LKeyStage$Row;", true)
  | _ => ("KeyStage", "notes", "LKeyStage$Notes;", true)
def tyX5 : Nat → FieldType := fun k => match k with
  | 0 => .object "java/util/ArrayList"
  | 1 => .object "java/util/ArrayList"
  | 2 => .object "KeyStage$Row"
  | 3 => .object "KeyStage$Row"
  | _ => .object "KeyStage$Notes"
abbrev wsX50 : List Cond := u_ws RX5 TX5 5
theorem nmX5 : ∀ a, a < 5 → ∀ b, b < 5 → a ≠ b → (TX5 a).2.1 ≠ (TX5 b).2.1 := by decide +kernel
theorem tyX5_ok : ∀ k, k < 5 → parseFieldDescriptor (TX5 k).2.2.1 = some (tyX5 k) := by decide +kernel
abbrev cX5_init : ByteArray := prog_1_method_1_code
def yX5_init : MethodName := ⟨RX5, "<init>", "()V"⟩
abbrev cX5_addClip : ByteArray := prog_1_method_2_code
def yX5_addClip : MethodName := ⟨RX5, "addClip", "(I)I"⟩
abbrev cX5_key : ByteArray := prog_1_method_4_code
def yX5_key : MethodName := ⟨RX5, "key", "(IIIII)I"⟩
abbrev cX5_keys : ByteArray := prog_1_method_6_code
def yX5_keys : MethodName := ⟨RX5, "keys", "(II)I"⟩
abbrev cX5_keyOf : ByteArray := prog_1_method_7_code
def yX5_keyOf : MethodName := ⟨RX5, "keyOf", "(IIII)I"⟩
abbrev cX5_trackAt : ByteArray := prog_1_method_8_code
def yX5_trackAt : MethodName := ⟨RX5, "trackAt", "(III)I"⟩
abbrev cX5_cue : ByteArray := prog_1_method_9_code
def yX5_cue : MethodName := ⟨RX5, "cue", "(III)I"⟩
abbrev cX5_mirror : ByteArray := prog_1_method_11_code
def yX5_mirror : MethodName := ⟨RX5, "mirror", "(I)I"⟩
abbrev cX5_setBase : ByteArray := prog_1_method_14_code
def yX5_setBase : MethodName := ⟨RX5, "setBase", "(II)I"⟩
abbrev cX5_addStrip : ByteArray := prog_1_method_15_code
def yX5_addStrip : MethodName := ⟨RX5, "addStrip", "(IIII)I"⟩
abbrev cX5_removeStrip : ByteArray := prog_1_method_16_code
def yX5_removeStrip : MethodName := ⟨RX5, "removeStrip", "(I)I"⟩
abbrev cX5_setSpeed : ByteArray := prog_1_method_17_code
def yX5_setSpeed : MethodName := ⟨RX5, "setSpeed", "(III)I"⟩
abbrev cX5_setBlend : ByteArray := prog_1_method_18_code
def yX5_setBlend : MethodName := ⟨RX5, "setBlend", "(IIIZZ)I"⟩
abbrev cX5_setFade : ByteArray := prog_1_method_19_code
def yX5_setFade : MethodName := ⟨RX5, "setFade", "(III)I"⟩
abbrev cX5_end : ByteArray := prog_1_method_22_code
def yX5_end : MethodName := ⟨RX5, "end", "()I"⟩
abbrev cX5_at : ByteArray := prog_1_method_23_code
def yX5_at : MethodName := ⟨RX5, "at", "(II)I"⟩
abbrev cX5_play : ByteArray := prog_1_method_26_code
def yX5_play : MethodName := ⟨RX5, "play", "(II)I"⟩
abbrev cX5_met : ByteArray := prog_1_method_27_code
def yX5_met : MethodName := ⟨RX5, "met", "(II)I"⟩
abbrev cX5_clipOrNull : ByteArray := prog_1_method_29_code
def yX5_clipOrNull : MethodName := ⟨RX5, "clipOrNull", "(I)LKeyStage$Clip;"⟩
abbrev cX5_stripOrNull : ByteArray := prog_1_method_30_code
def yX5_stripOrNull : MethodName := ⟨RX5, "stripOrNull", "(I)LKeyStage$Strip;"⟩
abbrev cX5_trackOrNull : ByteArray := prog_1_method_31_code
def yX5_trackOrNull : MethodName := ⟨RX5, "trackOrNull", "(LKeyStage$Clip;I)LKeyStage$Track;"⟩
abbrev cX5_isIn : ByteArray := prog_1_method_32_code
def yX5_isIn : MethodName := ⟨RX5, "isIn", "(III)Z"⟩
abbrev cX5_isProperty : ByteArray := prog_1_method_33_code
def yX5_isProperty : MethodName := ⟨RX5, "isProperty", "(I)Z"⟩
abbrev cX5_isValue : ByteArray := prog_1_method_34_code
def yX5_isValue : MethodName := ⟨RX5, "isValue", "(I)Z"⟩
abbrev cX5_isTime : ByteArray := prog_1_method_35_code
def yX5_isTime : MethodName := ⟨RX5, "isTime", "(I)Z"⟩
abbrev cX5_sortByLayers : ByteArray := prog_1_method_36_code
def yX5_sortByLayers : MethodName := ⟨RX5, "sortByLayers", "()V"⟩
abbrev cX5_valueAt : ByteArray := prog_1_method_37_code
def yX5_valueAt : MethodName := ⟨RX5, "valueAt", "(II)I"⟩
abbrev cX5_noteCues : ByteArray := prog_1_method_38_code
def yX5_noteCues : MethodName := ⟨RX5, "noteCues", "(LKeyStage$Strip;III)V"⟩
abbrev cX5_cut : ByteArray := prog_1_method_40_code
def yX5_cut : MethodName := ⟨RX5, "cut", "(II)I"⟩
abbrev cX5_roundedUp : ByteArray := prog_1_method_41_code
def yX5_roundedUp : MethodName := ⟨RX5, "roundedUp", "(II)I"⟩
abbrev cX5_rounded : ByteArray := prog_1_method_42_code
def yX5_rounded : MethodName := ⟨RX5, "rounded", "(JJ)I"⟩
def RX6 : String := "KeyStageModel"
def TX6 : u_T := fun k => match k with
  | _ => ("", "", "", false)
def tyX6 : Nat → FieldType := fun k => match k with
  | _ => .int
abbrev wsX60 : List Cond := u_ws RX6 TX6 0
theorem nmX6 : ∀ a, a < 0 → ∀ b, b < 0 → a ≠ b → (TX6 a).2.1 ≠ (TX6 b).2.1 := by decide +kernel
theorem tyX6_ok : ∀ k, k < 0 → parseFieldDescriptor (TX6 k).2.2.1 = some (tyX6 k) := by decide +kernel
def RJx145de : String := "java/io/Serializable"
def TJx145de : u_T := fun k => match k with
  | _ => ("", "", "", false)
def tyJx145de : Nat → FieldType := fun k => match k with
  | _ => .int
abbrev wsJx145de0 : List Cond := u_ws RJx145de TJx145de 0
theorem nmJx145de : ∀ a, a < 0 → ∀ b, b < 0 → a ≠ b → (TJx145de a).2.1 ≠ (TJx145de b).2.1 := by decide +kernel
theorem tyJx145de_ok : ∀ k, k < 0 → parseFieldDescriptor (TJx145de k).2.2.1 = some (tyJx145de k) := by decide +kernel
def RJx8e188 : String := "java/lang/Cloneable"
def TJx8e188 : u_T := fun k => match k with
  | _ => ("", "", "", false)
def tyJx8e188 : Nat → FieldType := fun k => match k with
  | _ => .int
abbrev wsJx8e1880 : List Cond := u_ws RJx8e188 TJx8e188 0
theorem nmJx8e188 : ∀ a, a < 0 → ∀ b, b < 0 → a ≠ b → (TJx8e188 a).2.1 ≠ (TJx8e188 b).2.1 := by decide +kernel
theorem tyJx8e188_ok : ∀ k, k < 0 → parseFieldDescriptor (TJx8e188 k).2.2.1 = some (tyJx8e188 k) := by decide +kernel
def RJxab1ab : String := "java/lang/Iterable"
def TJxab1ab : u_T := fun k => match k with
  | _ => ("", "", "", false)
def tyJxab1ab : Nat → FieldType := fun k => match k with
  | _ => .int
abbrev wsJxab1ab0 : List Cond := u_ws RJxab1ab TJxab1ab 0
theorem nmJxab1ab : ∀ a, a < 0 → ∀ b, b < 0 → a ≠ b → (TJxab1ab a).2.1 ≠ (TJxab1ab b).2.1 := by decide +kernel
theorem tyJxab1ab_ok : ∀ k, k < 0 → parseFieldDescriptor (TJxab1ab k).2.2.1 = some (tyJxab1ab k) := by decide +kernel
def RJ9 : String := "java/lang/Math"
def TJ9 : u_T := fun k => match k with
  | _ => ("", "", "", false)
def tyJ9 : Nat → FieldType := fun k => match k with
  | _ => .int
abbrev wsJ90 : List Cond := u_ws RJ9 TJ9 0
theorem nmJ9 : ∀ a, a < 0 → ∀ b, b < 0 → a ≠ b → (TJ9 a).2.1 ≠ (TJ9 b).2.1 := by decide +kernel
theorem tyJ9_ok : ∀ k, k < 0 → parseFieldDescriptor (TJ9 k).2.2.1 = some (tyJ9 k) := by decide +kernel
abbrev cJ9_floorDiv_f86c9 : ByteArray := prog_16_method_49_code
def yJ9_floorDiv_f86c9 : MethodName := ⟨RJ9, "floorDiv", "(JJ)J"⟩
abbrev cJ9_max_7cf53 : ByteArray := prog_16_method_65_code
def yJ9_max_7cf53 : MethodName := ⟨RJ9, "max", "(II)I"⟩
abbrev cJ9_min_7cf53 : ByteArray := prog_16_method_69_code
def yJ9_min_7cf53 : MethodName := ⟨RJ9, "min", "(II)I"⟩
def RJ0 : String := "java/lang/String"
def TJ0 : u_T := fun k => match k with
  | _ => ("", "", "", false)
def tyJ0 : Nat → FieldType := fun k => match k with
  | _ => .int
abbrev wsJ00 : List Cond := u_ws RJ0 TJ0 0
theorem nmJ0 : ∀ a, a < 0 → ∀ b, b < 0 → a ≠ b → (TJ0 a).2.1 ≠ (TJ0 b).2.1 := by decide +kernel
theorem tyJ0_ok : ∀ k, k < 0 → parseFieldDescriptor (TJ0 k).2.2.1 = some (tyJ0 k) := by decide +kernel
def RJ10 : String := "java/lang/System"
def TJ10 : u_T := fun k => match k with
  | _ => ("", "", "", false)
def tyJ10 : Nat → FieldType := fun k => match k with
  | _ => .int
abbrev wsJ100 : List Cond := u_ws RJ10 TJ10 0
theorem nmJ10 : ∀ a, a < 0 → ∀ b, b < 0 → a ≠ b → (TJ10 a).2.1 ≠ (TJ10 b).2.1 := by decide +kernel
theorem tyJ10_ok : ∀ k, k < 0 → parseFieldDescriptor (TJ10 k).2.2.1 = some (tyJ10 k) := by decide +kernel
def RJxa1e45 : String := "java/util/AbstractCollection"
def TJxa1e45 : u_T := fun k => match k with
  | _ => ("", "", "", false)
def tyJxa1e45 : Nat → FieldType := fun k => match k with
  | _ => .int
abbrev wsJxa1e450 : List Cond := u_ws RJxa1e45 TJxa1e45 0
theorem nmJxa1e45 : ∀ a, a < 0 → ∀ b, b < 0 → a ≠ b → (TJxa1e45 a).2.1 ≠ (TJxa1e45 b).2.1 := by decide +kernel
theorem tyJxa1e45_ok : ∀ k, k < 0 → parseFieldDescriptor (TJxa1e45 k).2.2.1 = some (tyJxa1e45 k) := by decide +kernel
abbrev cJxa1e45_init_da8c8 : ByteArray := prog_21_method_1_code
def yJxa1e45_init_da8c8 : MethodName := ⟨RJxa1e45, "<init>", "()V"⟩
def RJxc12de : String := "java/util/AbstractList"
def TJxc12de : u_T := fun k => match k with
  | _ => ("", "", "", false)
def tyJxc12de : Nat → FieldType := fun k => match k with
  | _ => .int
abbrev wsJxc12de0 : List Cond := u_ws RJxc12de TJxc12de 0
theorem nmJxc12de : ∀ a, a < 0 → ∀ b, b < 0 → a ≠ b → (TJxc12de a).2.1 ≠ (TJxc12de b).2.1 := by decide +kernel
theorem tyJxc12de_ok : ∀ k, k < 0 → parseFieldDescriptor (TJxc12de k).2.2.1 = some (tyJxc12de k) := by decide +kernel
abbrev cJxc12de_init_da8c8 : ByteArray := prog_22_method_1_code
def yJxc12de_init_da8c8 : MethodName := ⟨RJxc12de, "<init>", "()V"⟩
def RJx4a65c : String := "java/util/ArrayList"
def TJx4a65c : u_T := fun k => match k with
  | 0 => ("java/util/AbstractList", "modCount", "I", false)
  | 1 => ("java/util/ArrayList", "elementData", "[Ljava/lang/Object;", false)
  | _ => ("java/util/ArrayList", "size", "I", false)
def tyJx4a65c : Nat → FieldType := fun k => match k with
  | 0 => .int
  | 1 => .array (.object "java/lang/Object")
  | _ => .int
abbrev wsJx4a65c0 : List Cond := u_ws RJx4a65c TJx4a65c 3
theorem nmJx4a65c : ∀ a, a < 3 → ∀ b, b < 3 → a ≠ b → (TJx4a65c a).2.1 ≠ (TJx4a65c b).2.1 := by decide +kernel
theorem tyJx4a65c_ok : ∀ k, k < 3 → parseFieldDescriptor (TJx4a65c k).2.2.1 = some (tyJx4a65c k) := by decide +kernel
abbrev cJx4a65c_init_da8c8 : ByteArray := prog_23_method_2_code
def yJx4a65c_init_da8c8 : MethodName := ⟨RJx4a65c, "<init>", "()V"⟩
abbrev cJx4a65c_grow_92f84 : ByteArray := prog_23_method_6_code
def yJx4a65c_grow_92f84 : MethodName := ⟨RJx4a65c, "grow", "(I)[Ljava/lang/Object;"⟩
abbrev cJx4a65c_grow_d5877 : ByteArray := prog_23_method_7_code
def yJx4a65c_grow_d5877 : MethodName := ⟨RJx4a65c, "grow", "()[Ljava/lang/Object;"⟩
abbrev cJx4a65c_size_8abf5 : ByteArray := prog_23_method_8_code
def yJx4a65c_size_8abf5 : MethodName := ⟨RJx4a65c, "size", "()I"⟩
abbrev cJx4a65c_elementData_915e3 : ByteArray := prog_23_method_18_code
def yJx4a65c_elementData_915e3 : MethodName := ⟨RJx4a65c, "elementData", "(I)Ljava/lang/Object;"⟩
abbrev cJx4a65c_get_915e3 : ByteArray := prog_23_method_20_code
def yJx4a65c_get_915e3 : MethodName := ⟨RJx4a65c, "get", "(I)Ljava/lang/Object;"⟩
abbrev cJx4a65c_add_72be8 : ByteArray := prog_23_method_24_code
def yJx4a65c_add_72be8 : MethodName := ⟨RJx4a65c, "add", "(Ljava/lang/Object;[Ljava/lang/Object;I)V"⟩
abbrev cJx4a65c_add_9ea2d : ByteArray := prog_23_method_25_code
def yJx4a65c_add_9ea2d : MethodName := ⟨RJx4a65c, "add", "(Ljava/lang/Object;)Z"⟩
abbrev cJx4a65c_remove_915e3 : ByteArray := prog_23_method_29_code
def yJx4a65c_remove_915e3 : MethodName := ⟨RJx4a65c, "remove", "(I)Ljava/lang/Object;"⟩
abbrev cJx4a65c_fastRemove_b59b0 : ByteArray := prog_23_method_39_code
def yJx4a65c_fastRemove_b59b0 : MethodName := ⟨RJx4a65c, "fastRemove", "([Ljava/lang/Object;I)V"⟩
def RJ7 : String := "java/util/Arrays"
def TJ7 : u_T := fun k => match k with
  | _ => ("", "", "", false)
def tyJ7 : Nat → FieldType := fun k => match k with
  | _ => .int
abbrev wsJ70 : List Cond := u_ws RJ7 TJ7 0
theorem nmJ7 : ∀ a, a < 0 → ∀ b, b < 0 → a ≠ b → (TJ7 a).2.1 ≠ (TJ7 b).2.1 := by decide +kernel
theorem tyJ7_ok : ∀ k, k < 0 → parseFieldDescriptor (TJ7 k).2.2.1 = some (tyJ7 k) := by decide +kernel
abbrev cJ7_copyOf_1904c : ByteArray := prog_24_method_119_code
def yJ7_copyOf_1904c : MethodName := ⟨RJ7, "copyOf", "([Ljava/lang/Object;I)[Ljava/lang/Object;"⟩
abbrev cJ7_copyOf_6403c : ByteArray := prog_24_method_120_code
def yJ7_copyOf_6403c : MethodName := ⟨RJ7, "copyOf", "([Ljava/lang/Object;ILjava/lang/Class;)[Ljava/lang/Object;"⟩
def RJx5ef63 : String := "java/util/Collection"
def TJx5ef63 : u_T := fun k => match k with
  | _ => ("", "", "", false)
def tyJx5ef63 : Nat → FieldType := fun k => match k with
  | _ => .int
abbrev wsJx5ef630 : List Cond := u_ws RJx5ef63 TJx5ef63 0
theorem nmJx5ef63 : ∀ a, a < 0 → ∀ b, b < 0 → a ≠ b → (TJx5ef63 a).2.1 ≠ (TJx5ef63 b).2.1 := by decide +kernel
theorem tyJx5ef63_ok : ∀ k, k < 0 → parseFieldDescriptor (TJx5ef63 k).2.2.1 = some (tyJx5ef63 k) := by decide +kernel
def RJxbd725 : String := "java/util/List"
def TJxbd725 : u_T := fun k => match k with
  | _ => ("", "", "", false)
def tyJxbd725 : Nat → FieldType := fun k => match k with
  | _ => .int
abbrev wsJxbd7250 : List Cond := u_ws RJxbd725 TJxbd725 0
theorem nmJxbd725 : ∀ a, a < 0 → ∀ b, b < 0 → a ≠ b → (TJxbd725 a).2.1 ≠ (TJxbd725 b).2.1 := by decide +kernel
theorem tyJxbd725_ok : ∀ k, k < 0 → parseFieldDescriptor (TJxbd725 k).2.2.1 = some (tyJxbd725 k) := by decide +kernel
def RJ15 : String := "java/util/Objects"
def TJ15 : u_T := fun k => match k with
  | _ => ("", "", "", false)
def tyJ15 : Nat → FieldType := fun k => match k with
  | _ => .int
abbrev wsJ150 : List Cond := u_ws RJ15 TJ15 0
theorem nmJ15 : ∀ a, a < 0 → ∀ b, b < 0 → a ≠ b → (TJ15 a).2.1 ≠ (TJ15 b).2.1 := by decide +kernel
theorem tyJ15_ok : ∀ k, k < 0 → parseFieldDescriptor (TJ15 k).2.2.1 = some (tyJ15 k) := by decide +kernel
abbrev cJ15_checkIndex_7cf53 : ByteArray := prog_27_method_17_code
def yJ15_checkIndex_7cf53 : MethodName := ⟨RJ15, "checkIndex", "(II)I"⟩
def RJxf0a74 : String := "java/util/RandomAccess"
def TJxf0a74 : u_T := fun k => match k with
  | _ => ("", "", "", false)
def tyJxf0a74 : Nat → FieldType := fun k => match k with
  | _ => .int
abbrev wsJxf0a740 : List Cond := u_ws RJxf0a74 TJxf0a74 0
theorem nmJxf0a74 : ∀ a, a < 0 → ∀ b, b < 0 → a ≠ b → (TJxf0a74 a).2.1 ≠ (TJxf0a74 b).2.1 := by decide +kernel
theorem tyJxf0a74_ok : ∀ k, k < 0 → parseFieldDescriptor (TJxf0a74 k).2.2.1 = some (tyJxf0a74 k) := by decide +kernel
def RJxa66e6 : String := "java/util/SequencedCollection"
def TJxa66e6 : u_T := fun k => match k with
  | _ => ("", "", "", false)
def tyJxa66e6 : Nat → FieldType := fun k => match k with
  | _ => .int
abbrev wsJxa66e60 : List Cond := u_ws RJxa66e6 TJxa66e6 0
theorem nmJxa66e6 : ∀ a, a < 0 → ∀ b, b < 0 → a ≠ b → (TJxa66e6 a).2.1 ≠ (TJxa66e6 b).2.1 := by decide +kernel
theorem tyJxa66e6_ok : ∀ k, k < 0 → parseFieldDescriptor (TJxa66e6 k).2.2.1 = some (tyJxa66e6 k) := by decide +kernel
def RJ8 : String := "jdk/internal/util/ArraysSupport"
def TJ8 : u_T := fun k => match k with
  | _ => ("", "", "", false)
def tyJ8 : Nat → FieldType := fun k => match k with
  | _ => .int
abbrev wsJ80 : List Cond := u_ws RJ8 TJ8 0
theorem nmJ8 : ∀ a, a < 0 → ∀ b, b < 0 → a ≠ b → (TJ8 a).2.1 ≠ (TJ8 b).2.1 := by decide +kernel
theorem tyJ8_ok : ∀ k, k < 0 → parseFieldDescriptor (TJ8 k).2.2.1 = some (tyJ8 k) := by decide +kernel
abbrev cJ8_newLength_cabcc : ByteArray := prog_30_method_27_code
def yJ8_newLength_cabcc : MethodName := ⟨RJ8, "newLength", "(III)I"⟩
abbrev cJ8_hugeLength_7cf53 : ByteArray := prog_30_method_28_code
def yJ8_hugeLength_7cf53 : MethodName := ⟨RJ8, "hugeLength", "(II)I"⟩
def RJ3 : String := "jdk/internal/util/Preconditions"
def TJ3 : u_T := fun k => match k with
  | _ => ("", "", "", false)
def tyJ3 : Nat → FieldType := fun k => match k with
  | _ => .int
abbrev wsJ30 : List Cond := u_ws RJ3 TJ3 0
theorem nmJ3 : ∀ a, a < 0 → ∀ b, b < 0 → a ≠ b → (TJ3 a).2.1 ≠ (TJ3 b).2.1 := by decide +kernel
theorem tyJ3_ok : ∀ k, k < 0 → parseFieldDescriptor (TJ3 k).2.2.1 = some (tyJ3 k) := by decide +kernel
abbrev cJ3_checkIndex_8e157 : ByteArray := prog_31_method_11_code
def yJ3_checkIndex_8e157 : MethodName := ⟨RJ3, "checkIndex", "(IILjava/util/function/BiFunction;)I"⟩
def RL : String := "KeyStageLaw"
abbrev cL_below : ByteArray := method_2_code
def yL_below : MethodName := ⟨RL, "below", "(II)I"⟩
abbrev cL_cell : ByteArray := method_3_code
def yL_cell : MethodName := ⟨RL, "cell", "([II)I"⟩
abbrev cL_put : ByteArray := method_4_code
def yL_put : MethodName := ⟨RL, "put", "([IIIII)I"⟩
abbrev cL_stage : ByteArray := method_5_code
def yL_stage : MethodName := ⟨RL, "stage", "(LKeyStage;[I[I[I[I[I)I"⟩
abbrev cL_law : ByteArray := code
def yL_law : MethodName := ⟨RL, "law", "([I)Z"⟩
def wsJx4a65c_fastRemove_b59b0 : List Cond := .code yJx4a65c_fastRemove_b59b0 cJx4a65c_fastRemove_b59b0 4 none :: ([.fieldLink RJx4a65c 63 "java/util/ArrayList" "modCount" "I", .sameField "java/util/ArrayList" "java/util/AbstractList" "modCount" "I", .fieldLink RJx4a65c 48 "java/util/ArrayList" "size" "I", .methodLink RJx4a65c 112 arraycopyName, .native arraycopyName, .static arraycopyName, .initialized "java/lang/System"] ++ wsJx4a65c0)
def wsL_law0_r1 : List Cond := [Cond.classLink RL 20 RX5, Cond.instantiable RX5 5, Cond.initialized RX5, Cond.arrayClass .int, Cond.constant RL 65 (99999), Cond.constant RL 66 (-99999), Cond.methodLink RL 70 Lib.Math.min.name, Cond.static Lib.Math.min.name, Cond.initialized "java/lang/Math", Cond.code Lib.Math.min.name Lib.Math.min.code 2 (some .int), Cond.methodLink RL 75 Lib.Math.max.name, Cond.static Lib.Math.max.name, Cond.code Lib.Math.max.name Lib.Math.max.code 2 (some .int), Cond.constant RL 90 (100000), Cond.methodLink RL 54 yX5_init, Cond.instanceMethod yX5_init, Cond.code yX5_init cX5_init 2 none, Cond.methodLink RX5 1 objectInit, Cond.instanceMethod objectInit, Cond.code objectInit ⟨#[0xb1]⟩ 1 none, Cond.classLink RX5 7 RJx4a65c, Cond.instantiable RJx4a65c 3, Cond.initialized RJx4a65c, Cond.fieldLink RX5 10 "KeyStage" "clips" "Ljava/util/ArrayList;"]
def wsL_law0_r2 : List Cond := [Cond.fieldLink RX5 16 "KeyStage" "strips" "Ljava/util/ArrayList;", Cond.classLink RX5 19 RX2, Cond.instantiable RX2 2, Cond.initialized RX2, Cond.fieldLink RX5 24 "KeyStage" "bases" "LKeyStage$Row;", Cond.fieldLink RX5 31 "KeyStage" "layered" "LKeyStage$Row;", Cond.classLink RX5 34 RX1, Cond.instantiable RX1 5, Cond.initialized RX1, Cond.fieldLink RX5 37 "KeyStage" "notes" "LKeyStage$Notes;", Cond.methodLink RX5 9 yJx4a65c_init_da8c8, Cond.instanceMethod yJx4a65c_init_da8c8, Cond.code yJx4a65c_init_da8c8 cJx4a65c_init_da8c8 1 none, Cond.fieldLink RJx4a65c 39 "java/util/ArrayList" "DEFAULTCAPACITY_EMPTY_ELEMENTDATA" "[Ljava/lang/Object;", Cond.fieldLink RJx4a65c 9 "java/util/ArrayList" "elementData" "[Ljava/lang/Object;", Cond.methodLink RJx4a65c 1 yJxc12de_init_da8c8, Cond.instanceMethod yJxc12de_init_da8c8, Cond.initialized RJxc12de, Cond.code yJxc12de_init_da8c8 cJxc12de_init_da8c8 1 none, Cond.fieldLink RJxc12de 7 "java/util/AbstractList" "modCount" "I", Cond.methodLink RJxc12de 1 yJxa1e45_init_da8c8, Cond.instanceMethod yJxa1e45_init_da8c8, Cond.initialized RJxa1e45, Cond.code yJxa1e45_init_da8c8 cJxa1e45_init_da8c8 1 none]
def wsL_law0_r3 : List Cond := [Cond.methodLink RJxa1e45 1 objectInit, Cond.methodLink RX5 21 yX2_init, Cond.instanceMethod yX2_init, Cond.code yX2_init cX2_init 2 none, Cond.methodLink RX2 1 objectInit, Cond.fieldLink RX2 7 "KeyStage$Row" "cells" "[I", Cond.methodLink RX5 28 yX2_append, Cond.instanceMethod yX2_append, Cond.selects RX2 yX2_append yX2_append, Cond.code yX2_append cX2_append 2 none, Cond.fieldLink RX2 13 "KeyStage$Row" "size" "I", Cond.methodLink RX2 21 yX2_insert, Cond.instanceMethod yX2_insert, Cond.selects RX2 yX2_insert yX2_insert, Cond.code yX2_insert cX2_insert 4 none, Cond.instanceMethod yX1_init, Cond.code yX1_init cX1_init 1 none, Cond.methodLink RX1 3 objectInit, Cond.classLink RX1 9 RX2, Cond.fieldLink RX1 14 "KeyStage$Notes" "times" "LKeyStage$Row;", Cond.fieldLink RX1 20 "KeyStage$Notes" "strips" "LKeyStage$Row;", Cond.fieldLink RX1 23 "KeyStage$Notes" "rounds" "LKeyStage$Row;", Cond.fieldLink RX1 26 "KeyStage$Notes" "numbers" "LKeyStage$Row;", Cond.methodLink RX1 11 yX2_init]
def wsL_law0_r4 : List Cond := [Cond.methodLink RL 55 yL_stage, Cond.static yL_stage, Cond.initialized RL, Cond.code yL_stage cL_stage 13 (some .int), Cond.methodLink RL 25 arraycopyName, Cond.native arraycopyName, Cond.static arraycopyName, Cond.initialized "java/lang/System", Cond.methodLink RL 9 yL_cell, Cond.static yL_cell, Cond.code yL_cell cL_cell 2 (some .int), Cond.constant RL 8 (790386105), Cond.methodLink RL 15 yL_below, Cond.static yL_below, Cond.code yL_below cL_below 2 (some .int), Cond.constant RL 7 (2147483647), Cond.methodLink RL 19 yX5_addClip, Cond.instanceMethod yX5_addClip, Cond.selects RX5 yX5_addClip yX5_addClip, Cond.code yX5_addClip cX5_addClip 2 (some .int), Cond.classLink RX5 45 "java/lang/IllegalArgumentException", Cond.initialized "java/lang/IllegalArgumentException", Cond.classLink RX5 56 "java/lang/IllegalStateException", Cond.initialized "java/lang/IllegalStateException"]
def wsL_law0_r5 : List Cond := [Cond.classLink RX5 61 RX0, Cond.instantiable RX0 4, Cond.initialized RX0, Cond.methodLink RX5 41 yX5_isIn, Cond.static yX5_isIn, Cond.code yX5_isIn cX5_isIn 3 (some .boolean), Cond.methodLink RX5 52 yJx4a65c_size_8abf5, Cond.instanceMethod yJx4a65c_size_8abf5, Cond.selects RJx4a65c yJx4a65c_size_8abf5 yJx4a65c_size_8abf5, Cond.code yJx4a65c_size_8abf5 cJx4a65c_size_8abf5 1 (some .int), Cond.fieldLink RJx4a65c 48 "java/util/ArrayList" "size" "I", Cond.methodLink RX5 63 yX0_init, Cond.instanceMethod yX0_init, Cond.code yX0_init cX0_init 3 none, Cond.methodLink RX0 3 objectInit, Cond.classLink RX0 9 RX2, Cond.fieldLink RX0 14 "KeyStage$Clip" "cueTimes" "LKeyStage$Row;", Cond.fieldLink RX0 20 "KeyStage$Clip" "cueNumbers" "LKeyStage$Row;", Cond.fieldLink RX0 23 "KeyStage$Clip" "length" "I", Cond.classLink RX0 27 RX4, Cond.fieldLink RX0 29 "KeyStage$Clip" "tracks" "[LKeyStage$Track;", Cond.instantiable RX4 3, Cond.initialized RX4, Cond.methodLink RX0 11 yX2_init]
def wsL_law0_r6 : List Cond := [Cond.instanceMethod yX4_init, Cond.code yX4_init cX4_init 1 none, Cond.methodLink RX4 3 objectInit, Cond.classLink RX4 9 RX2, Cond.fieldLink RX4 14 "KeyStage$Track" "times" "LKeyStage$Row;", Cond.fieldLink RX4 20 "KeyStage$Track" "values" "LKeyStage$Row;", Cond.fieldLink RX4 23 "KeyStage$Track" "eases" "LKeyStage$Row;", Cond.methodLink RX4 11 yX2_init, Cond.methodLink RX5 64 yJx4a65c_add_9ea2d, Cond.instanceMethod yJx4a65c_add_9ea2d, Cond.selects RJx4a65c yJx4a65c_add_9ea2d yJx4a65c_add_9ea2d, Cond.code yJx4a65c_add_9ea2d cJx4a65c_add_9ea2d 2 (some .boolean), Cond.fieldLink RJx4a65c 63 "java/util/ArrayList" "modCount" "I", Cond.sameField "java/util/ArrayList" "java/util/AbstractList" "modCount" "I", Cond.methodLink RJx4a65c 131 yJx4a65c_add_72be8, Cond.instanceMethod yJx4a65c_add_72be8, Cond.selects RJx4a65c yJx4a65c_add_72be8 yJx4a65c_add_72be8, Cond.code yJx4a65c_add_72be8 cJx4a65c_add_72be8 4 none, Cond.methodLink RJx4a65c 129 yJx4a65c_grow_d5877, Cond.instanceMethod yJx4a65c_grow_d5877, Cond.selects RJx4a65c yJx4a65c_grow_d5877 yJx4a65c_grow_d5877, Cond.code yJx4a65c_grow_d5877 cJx4a65c_grow_d5877 1 (some (.array (.object "java/lang/Object"))), Cond.methodLink RJx4a65c 69 yJx4a65c_grow_92f84, Cond.instanceMethod yJx4a65c_grow_92f84]
def wsL_law0_r7 : List Cond := [Cond.selects RJx4a65c yJx4a65c_grow_92f84 yJx4a65c_grow_92f84, Cond.code yJx4a65c_grow_92f84 cJx4a65c_grow_92f84 4 (some (.array (.object "java/lang/Object"))), Cond.methodLink RJx4a65c 79 Lib.Math.max.name, Cond.classLink RJx4a65c 7 "java/lang/Object", Cond.methodLink RJx4a65c 73 yJ8_newLength_cabcc, Cond.static yJ8_newLength_cabcc, Cond.initialized RJ8, Cond.code yJ8_newLength_cabcc cJ8_newLength_cabcc 4 (some .int), Cond.methodLink RJ8 194 Lib.Math.max.name, Cond.constant RJ8 200 (2147483639), Cond.methodLink RJ8 201 yJ8_hugeLength_7cf53, Cond.static yJ8_hugeLength_7cf53, Cond.code yJ8_hugeLength_7cf53 cJ8_hugeLength_7cf53 3 (some .int), Cond.methodLink RJx4a65c 66 yJ7_copyOf_1904c, Cond.static yJ7_copyOf_1904c, Cond.initialized RJ7, Cond.code yJ7_copyOf_1904c cJ7_copyOf_1904c 2 (some (.array (.object "java/lang/Object"))), Cond.methodLink RJ7 86 ⟨"java/lang/Object", "getClass", "()Ljava/lang/Class;"⟩, Cond.selects "[Ljava/lang/Object;" ⟨"java/lang/Object", "getClass", "()Ljava/lang/Class;"⟩ ⟨"java/lang/Object", "getClass", "()Ljava/lang/Class;"⟩, Cond.instanceMethod ⟨"java/lang/Object", "getClass", "()Ljava/lang/Class;"⟩, Cond.native ⟨"java/lang/Object", "getClass", "()Ljava/lang/Class;"⟩, Cond.methodLink RJ7 300 yJ7_copyOf_6403c, Cond.static yJ7_copyOf_6403c, Cond.code yJ7_copyOf_6403c cJ7_copyOf_6403c 4 (some (.array (.object "java/lang/Object")))]
def wsL_law0_r8 : List Cond := [Cond.classLink RJ7 110 "[Ljava/lang/Object;", Cond.classLink RJ7 2 "java/lang/Object", Cond.methodLink RJ7 304 Lib.Math.min.name, Cond.methodLink RJ7 150 arraycopyName, Cond.methodLink RL 31 yL_put, Cond.static yL_put, Cond.code yL_put cL_put 8 (some .int), Cond.methodLink RL 35 yX5_key, Cond.instanceMethod yX5_key, Cond.selects RX5 yX5_key yX5_key, Cond.code yX5_key cX5_key 8 (some .int), Cond.classLink RX5 72 "java/lang/IndexOutOfBoundsException", Cond.initialized "java/lang/IndexOutOfBoundsException", Cond.methodLink RX5 68 yX5_clipOrNull, Cond.instanceMethod yX5_clipOrNull, Cond.selects RX5 yX5_clipOrNull yX5_clipOrNull, Cond.code yX5_clipOrNull cX5_clipOrNull 2 (some (.object "KeyStage$Clip")), Cond.classLink RX5 61 "KeyStage$Clip", Cond.methodLink RX5 250 yJx4a65c_get_915e3, Cond.instanceMethod yJx4a65c_get_915e3, Cond.selects RJx4a65c yJx4a65c_get_915e3 yJx4a65c_get_915e3, Cond.code yJx4a65c_get_915e3 cJx4a65c_get_915e3 2 (some (.object "java/lang/Object")), Cond.methodLink RJx4a65c 118 yJ15_checkIndex_7cf53, Cond.static yJ15_checkIndex_7cf53]
def wsL_law0_r9 : List Cond := [Cond.initialized RJ15, Cond.code yJ15_checkIndex_7cf53 cJ15_checkIndex_7cf53 2 (some .int), Cond.methodLink RJ15 105 yJ3_checkIndex_8e157, Cond.static yJ3_checkIndex_8e157, Cond.initialized RJ3, Cond.code yJ3_checkIndex_8e157 cJ3_checkIndex_8e157 3 (some .int), Cond.methodLink RJx4a65c 123 yJx4a65c_elementData_915e3, Cond.instanceMethod yJx4a65c_elementData_915e3, Cond.selects RJx4a65c yJx4a65c_elementData_915e3 yJx4a65c_elementData_915e3, Cond.code yJx4a65c_elementData_915e3 cJx4a65c_elementData_915e3 2 (some (.object "java/lang/Object")), Cond.methodLink RX5 87 yX5_trackOrNull, Cond.static yX5_trackOrNull, Cond.code yX5_trackOrNull cX5_trackOrNull 2 (some (.object "KeyStage$Track")), Cond.methodLink RX5 293 yX0_trackOrNull, Cond.instanceMethod yX0_trackOrNull, Cond.selects RX0 yX0_trackOrNull yX0_trackOrNull, Cond.code yX0_trackOrNull cX0_trackOrNull 2 (some (.object "KeyStage$Track")), Cond.methodLink RX5 93 yX5_isValue, Cond.static yX5_isValue, Cond.code yX5_isValue cX5_isValue 1 (some .boolean), Cond.methodLink RX5 99 yX4_count, Cond.instanceMethod yX4_count, Cond.selects RX4 yX4_count yX4_count, Cond.code yX4_count cX4_count 1 (some .int)]
def wsL_law0_r10 : List Cond := [Cond.methodLink RX4 26 yX2_size, Cond.instanceMethod yX2_size, Cond.selects RX2 yX2_size yX2_size, Cond.code yX2_size cX2_size 1 (some .int), Cond.methodLink RX5 104 yX4_hasKeyAt, Cond.instanceMethod yX4_hasKeyAt, Cond.selects RX4 yX4_hasKeyAt yX4_hasKeyAt, Cond.code yX4_hasKeyAt cX4_hasKeyAt 3 (some .boolean), Cond.methodLink RX4 34 yX2_countUpTo, Cond.instanceMethod yX2_countUpTo, Cond.selects RX2 yX2_countUpTo yX2_countUpTo, Cond.code yX2_countUpTo cX2_countUpTo 3 (some .int), Cond.methodLink RX2 25 yX2_get, Cond.instanceMethod yX2_get, Cond.selects RX2 yX2_get yX2_get, Cond.code yX2_get cX2_get 2 (some .int), Cond.methodLink RX2 17 yX2_isCell, Cond.instanceMethod yX2_isCell, Cond.selects RX2 yX2_isCell yX2_isCell, Cond.code yX2_isCell cX2_isCell 2 (some .boolean), Cond.methodLink RX4 30 yX2_get, Cond.methodLink RX5 109 yX4_lay, Cond.instanceMethod yX4_lay, Cond.selects RX4 yX4_lay yX4_lay]
def wsL_law0_r11 : List Cond := [Cond.code yX4_lay cX4_lay 5 none, Cond.methodLink RX4 37 yX4_hasKeyAt, Cond.methodLink RX4 41 yX2_set, Cond.instanceMethod yX2_set, Cond.selects RX2 yX2_set yX2_set, Cond.code yX2_set cX2_set 3 none, Cond.methodLink RX4 45 yX2_insert, Cond.methodLink RL 39 yX5_addStrip, Cond.instanceMethod yX5_addStrip, Cond.selects RX5 yX5_addStrip yX5_addStrip, Cond.code yX5_addStrip cX5_addStrip 6 (some .int), Cond.classLink RX5 183 RX3, Cond.instantiable RX3 13, Cond.initialized RX3, Cond.methodLink RX5 185 yX3_init, Cond.instanceMethod yX3_init, Cond.code yX3_init cX3_init 6 none, Cond.methodLink RX3 3 objectInit, Cond.fieldLink RX3 9 "KeyStage$Strip" "p" "I", Cond.fieldLink RX3 15 "KeyStage$Strip" "q" "I", Cond.fieldLink RX3 18 "KeyStage$Strip" "weight" "I", Cond.fieldLink RX3 21 "KeyStage$Strip" "clip" "LKeyStage$Clip;", Cond.fieldLink RX3 25 "KeyStage$Strip" "clipNumber" "I", Cond.fieldLink RX3 28 "KeyStage$Strip" "start" "I"]
def wsL_law0_r12 : List Cond := [Cond.fieldLink RX3 31 "KeyStage$Strip" "rounds" "I", Cond.fieldLink RX3 34 "KeyStage$Strip" "way" "I", Cond.methodLink RL 43 yX5_setSpeed, Cond.instanceMethod yX5_setSpeed, Cond.selects RX5 yX5_setSpeed yX5_setSpeed, Cond.code yX5_setSpeed cX5_setSpeed 5 (some .int), Cond.methodLink RX5 194 yX5_stripOrNull, Cond.instanceMethod yX5_stripOrNull, Cond.selects RX5 yX5_stripOrNull yX5_stripOrNull, Cond.code yX5_stripOrNull cX5_stripOrNull 2 (some (.object "KeyStage$Strip")), Cond.classLink RX5 183 "KeyStage$Strip", Cond.methodLink RX5 206 yX3_endTime, Cond.instanceMethod yX3_endTime, Cond.selects RX3 yX3_endTime yX3_endTime, Cond.code yX3_endTime cX3_endTime 1 (some .int), Cond.methodLink RX3 66 yX3_ticks, Cond.instanceMethod yX3_ticks, Cond.selects RX3 yX3_ticks yX3_ticks, Cond.code yX3_ticks cX3_ticks 1 (some .int), Cond.methodLink RX3 69 yX3_timeOfTick, Cond.instanceMethod yX3_timeOfTick, Cond.selects RX3 yX3_timeOfTick yX3_timeOfTick, Cond.code yX3_timeOfTick cX3_timeOfTick 2 (some .int), Cond.static yX5_roundedUp]
def wsL_law0_r13 : List Cond := [Cond.code yX5_roundedUp cX5_roundedUp 2 (some .int), Cond.methodLink RL 47 yX5_setBlend, Cond.instanceMethod yX5_setBlend, Cond.selects RX5 yX5_setBlend yX5_setBlend, Cond.code yX5_setBlend cX5_setBlend 8 (some .int), Cond.methodLink RL 51 yX5_setFade, Cond.instanceMethod yX5_setFade, Cond.selects RX5 yX5_setFade yX5_setFade, Cond.code yX5_setFade cX5_setFade 6 (some .int), Cond.methodLink RL 59 yX5_cue, Cond.instanceMethod yX5_cue, Cond.selects RX5 yX5_cue yX5_cue, Cond.code yX5_cue cX5_cue 5 (some .int), Cond.methodLink RX5 81 yX0_cueCount, Cond.instanceMethod yX0_cueCount, Cond.selects RX0 yX0_cueCount yX0_cueCount, Cond.code yX0_cueCount cX0_cueCount 1 (some .int), Cond.methodLink RX0 38 yX2_size, Cond.methodLink RX5 138 yX0_layCue, Cond.instanceMethod yX0_layCue, Cond.selects RX0 yX0_layCue yX0_layCue, Cond.code yX0_layCue cX0_layCue 4 none, Cond.methodLink RX0 45 yX2_countUpTo, Cond.methodLink RX0 48 yX2_insert]
def wsL_law0_r14 : List Cond := [Cond.methodLink RL 62 yX5_keys, Cond.instanceMethod yX5_keys, Cond.selects RX5 yX5_keys yX5_keys, Cond.code yX5_keys cX5_keys 4 (some .int), Cond.methodLink RL 67 yX5_keyOf, Cond.instanceMethod yX5_keyOf, Cond.selects RX5 yX5_keyOf yX5_keyOf, Cond.code yX5_keyOf cX5_keyOf 6 (some .int), Cond.methodLink RX5 120 yX4_fact, Cond.instanceMethod yX4_fact, Cond.selects RX4 yX4_fact yX4_fact, Cond.code yX4_fact cX4_fact 3 (some .int), Cond.methodLink RL 78 yX5_trackAt, Cond.instanceMethod yX5_trackAt, Cond.selects RX5 yX5_trackAt yX5_trackAt, Cond.code yX5_trackAt cX5_trackAt 6 (some .int), Cond.methodLink RX5 128 yX4_valueAt, Cond.instanceMethod yX4_valueAt, Cond.selects RX4 yX4_valueAt yX4_valueAt, Cond.code yX4_valueAt cX4_valueAt 4 (some .int), Cond.methodLink RX4 51 yX4_valueBetween, Cond.instanceMethod yX4_valueBetween, Cond.selects RX4 yX4_valueBetween yX4_valueBetween, Cond.code yX4_valueBetween cX4_valueBetween 11 (some .int)]
def wsL_law0_r15 : List Cond := [Cond.constantLong RX4 59 (2), Cond.constantLong RX4 61 (3), Cond.static yX5_rounded, Cond.code yX5_rounded cX5_rounded 4 (some .int), Cond.constantLong RX5 329 (2), Cond.methodLink RX5 331 yJ9_floorDiv_f86c9, Cond.static yJ9_floorDiv_f86c9, Cond.initialized RJ9, Cond.code yJ9_floorDiv_f86c9 cJ9_floorDiv_f86c9 6 (some .long), Cond.methodLink RL 81 yX5_mirror, Cond.instanceMethod yX5_mirror, Cond.selects RX5 yX5_mirror yX5_mirror, Cond.code yX5_mirror cX5_mirror 3 (some .int), Cond.methodLink RX5 147 yX0_turnAround, Cond.instanceMethod yX0_turnAround, Cond.selects RX0 yX0_turnAround yX0_turnAround, Cond.code yX0_turnAround cX0_turnAround 5 none, Cond.methodLink RX0 52 yX4_turnAround, Cond.instanceMethod yX4_turnAround, Cond.selects RX4 yX4_turnAround yX4_turnAround, Cond.code yX4_turnAround cX4_turnAround 4 none, Cond.methodLink RX4 63 yX2_mirrorTimes, Cond.instanceMethod yX2_mirrorTimes, Cond.selects RX2 yX2_mirrorTimes yX2_mirrorTimes]
def wsL_law0_r16 : List Cond := [Cond.code yX2_mirrorTimes cX2_mirrorTimes 3 none, Cond.methodLink RX2 29 yX2_set, Cond.methodLink RX2 32 yX2_reverse, Cond.instanceMethod yX2_reverse, Cond.selects RX2 yX2_reverse yX2_reverse, Cond.code yX2_reverse cX2_reverse 3 none, Cond.methodLink RX4 66 yX2_reverse, Cond.methodLink RX4 48 yX2_delete, Cond.instanceMethod yX2_delete, Cond.selects RX2 yX2_delete yX2_delete, Cond.code yX2_delete cX2_delete 3 none, Cond.methodLink RX4 69 yX2_append, Cond.methodLink RX4 72 yX4_mirroredEase, Cond.static yX4_mirroredEase, Cond.code yX4_mirroredEase cX4_mirroredEase 1 (some .int), Cond.methodLink RX0 55 yX2_mirrorTimes, Cond.methodLink RX0 58 yX2_reverse, Cond.methodLink RL 84 yX5_setBase, Cond.instanceMethod yX5_setBase, Cond.selects RX5 yX5_setBase yX5_setBase, Cond.code yX5_setBase cX5_setBase 4 (some .int), Cond.methodLink RX5 166 yX5_isProperty, Cond.static yX5_isProperty, Cond.code yX5_isProperty cX5_isProperty 1 (some .boolean)]
def wsL_law0_r17 : List Cond := [Cond.methodLink RX5 173 yX2_get, Cond.methodLink RX5 176 yX2_set, Cond.methodLink RL 87 yX5_at, Cond.instanceMethod yX5_at, Cond.selects RX5 yX5_at yX5_at, Cond.code yX5_at cX5_at 3 (some .int), Cond.methodLink RX5 236 yX5_isTime, Cond.static yX5_isTime, Cond.code yX5_isTime cX5_isTime 1 (some .boolean), Cond.constant RX5 264 (100000), Cond.methodLink RX5 257 yX5_sortByLayers, Cond.instanceMethod yX5_sortByLayers, Cond.selects RX5 yX5_sortByLayers yX5_sortByLayers, Cond.code yX5_sortByLayers cX5_sortByLayers 3 none, Cond.methodLink RX5 296 yX2_shorten, Cond.instanceMethod yX2_shorten, Cond.selects RX2 yX2_shorten yX2_shorten, Cond.code yX2_shorten cX2_shorten 2 none, Cond.methodLink RX5 260 yX5_valueAt, Cond.instanceMethod yX5_valueAt, Cond.selects RX5 yX5_valueAt yX5_valueAt, Cond.code yX5_valueAt cX5_valueAt 6 (some .int), Cond.methodLink RX5 299 yX2_size, Cond.methodLink RX5 300 yX3_blended]
def wsL_law0_r18 : List Cond := [Cond.instanceMethod yX3_blended, Cond.selects RX3 yX3_blended yX3_blended, Cond.code yX3_blended cX3_blended 7 (some .int), Cond.fieldLink RX3 44 "KeyStage$Strip" "isAdded" "Z", Cond.constantLong RX3 110 (100), Cond.methodLink RX3 89 yX0_trackOrNull, Cond.methodLink RX3 93 yX4_count, Cond.methodLink RX3 98 yX3_isOn, Cond.instanceMethod yX3_isOn, Cond.selects RX3 yX3_isOn yX3_isOn, Cond.code yX3_isOn cX3_isOn 2 (some .boolean), Cond.fieldLink RX3 48 "KeyStage$Strip" "isHeld" "Z", Cond.methodLink RX3 37 yX3_endTime, Cond.methodLink RX3 101 yX3_localTime, Cond.instanceMethod yX3_localTime, Cond.selects RX3 yX3_localTime yX3_localTime, Cond.code yX3_localTime cX3_localTime 5 (some .int), Cond.methodLink RX3 76 Lib.Math.min.name, Cond.static yX5_cut, Cond.code yX5_cut cX5_cut 2 (some .int), Cond.methodLink RX3 81 yX3_isBackwards, Cond.instanceMethod yX3_isBackwards, Cond.selects RX3 yX3_isBackwards yX3_isBackwards, Cond.code yX3_isBackwards cX3_isBackwards 2 (some .boolean)]
def wsL_law0_r19 : List Cond := [Cond.methodLink RX3 104 yX4_valueAt, Cond.methodLink RX3 107 yX3_strength, Cond.instanceMethod yX3_strength, Cond.selects RX3 yX3_strength yX3_strength, Cond.code yX3_strength cX3_strength 5 (some .int), Cond.fieldLink RX3 51 "KeyStage$Strip" "fadeIn" "I", Cond.fieldLink RX3 54 "KeyStage$Strip" "fadeOut" "I", Cond.methodLink RL 91 yX5_play, Cond.instanceMethod yX5_play, Cond.selects RX5 yX5_play yX5_play, Cond.code yX5_play cX5_play 4 (some .int), Cond.methodLink RX5 267 yX1_clear, Cond.instanceMethod yX1_clear, Cond.selects RX1 yX1_clear yX1_clear, Cond.code yX1_clear cX1_clear 1 none, Cond.fieldLink RX1 36 "KeyStage$Notes" "count" "I", Cond.methodLink RX1 33 yX1_shorten, Cond.instanceMethod yX1_shorten, Cond.selects RX1 yX1_shorten yX1_shorten, Cond.code yX1_shorten cX1_shorten 2 none, Cond.methodLink RX1 40 yX2_shorten, Cond.methodLink RX5 270 yX5_noteCues, Cond.instanceMethod yX5_noteCues, Cond.selects RX5 yX5_noteCues yX5_noteCues]
def wsL_law0_r20 : List Cond := [Cond.code yX5_noteCues cX5_noteCues 11 none, Cond.methodLink RX5 311 yX3_isBackwards, Cond.methodLink RX5 317 yX3_meetingTime, Cond.instanceMethod yX3_meetingTime, Cond.selects RX3 yX3_meetingTime yX3_meetingTime, Cond.code yX3_meetingTime cX3_meetingTime 4 (some .int), Cond.methodLink RX5 323 yX1_note, Cond.instanceMethod yX1_note, Cond.selects RX1 yX1_note yX1_note, Cond.code yX1_note cX1_note 6 none, Cond.methodLink RX1 41 yX2_countUpTo, Cond.methodLink RX1 45 yX2_insert, Cond.methodLink RL 94 yX5_met, Cond.instanceMethod yX5_met, Cond.selects RX5 yX5_met yX5_met, Cond.code yX5_met cX5_met 3 (some .int), Cond.methodLink RX5 276 yX1_keptCount, Cond.instanceMethod yX1_keptCount, Cond.selects RX1 yX1_keptCount yX1_keptCount, Cond.code yX1_keptCount cX1_keptCount 1 (some .int), Cond.methodLink RX1 29 yX2_size, Cond.methodLink RX5 281 yX1_fact, Cond.instanceMethod yX1_fact, Cond.selects RX1 yX1_fact yX1_fact]
def wsL_law0_r21 : List Cond := [Cond.code yX1_fact cX1_fact 3 (some .int), Cond.methodLink RX1 49 yX2_get, Cond.methodLink RL 97 yX5_removeStrip, Cond.instanceMethod yX5_removeStrip, Cond.selects RX5 yX5_removeStrip yX5_removeStrip, Cond.code yX5_removeStrip cX5_removeStrip 2 (some .int), Cond.methodLink RX5 190 yJx4a65c_remove_915e3, Cond.instanceMethod yJx4a65c_remove_915e3, Cond.selects RJx4a65c yJx4a65c_remove_915e3 yJx4a65c_remove_915e3, Cond.code yJx4a65c_remove_915e3 cJx4a65c_remove_915e3 4 (some (.object "java/lang/Object")), Cond.methodLink RJx4a65c 144 yJx4a65c_fastRemove_b59b0, Cond.instanceMethod yJx4a65c_fastRemove_b59b0, Cond.selects RJx4a65c yJx4a65c_fastRemove_b59b0 yJx4a65c_fastRemove_b59b0, Cond.code yJx4a65c_fastRemove_b59b0 cJx4a65c_fastRemove_b59b0 4 none, Cond.methodLink RJx4a65c 112 arraycopyName, Cond.methodLink RL 100 yX5_end, Cond.instanceMethod yX5_end, Cond.selects RX5 yX5_end yX5_end, Cond.code yX5_end cX5_end 3 (some .int), Cond.methodLink RX5 252 Lib.Math.max.name]
def wsL_law0 : List Cond := (wsL_law0_r1 ++ (wsL_law0_r2 ++ (wsL_law0_r3 ++ (wsL_law0_r4 ++ (wsL_law0_r5 ++ (wsL_law0_r6 ++ (wsL_law0_r7 ++ (wsL_law0_r8 ++ (wsL_law0_r9 ++ (wsL_law0_r10 ++ (wsL_law0_r11 ++ (wsL_law0_r12 ++ (wsL_law0_r13 ++ (wsL_law0_r14 ++ (wsL_law0_r15 ++ (wsL_law0_r16 ++ (wsL_law0_r17 ++ (wsL_law0_r18 ++ (wsL_law0_r19 ++ (wsL_law0_r20 ++ wsL_law0_r21)))))))))))))))))))) ++ wsX50 ++ wsJx4a65c0 ++ wsX20 ++ wsX10 ++ wsX00 ++ wsX40 ++ wsX30 ++ ([] : List Cond)
def wsL_law : List Cond := wsL_law0 ++ (vx_atS RX5 49 "java/lang/IllegalArgumentException" ["java/lang/RuntimeException", "java/lang/Exception"]).filter goodWord ++ (vx_atS RX5 60 "java/lang/IllegalStateException" ["java/lang/RuntimeException", "java/lang/Exception"]).filter goodWord ++ (vx_atS RX5 76 "java/lang/IndexOutOfBoundsException" ["java/lang/RuntimeException", "java/lang/Exception"]).filter goodWord
theorem inlX0 : ∀ w ∈ wsX00, w ∈ wsL_law := fun _ h => List.mem_append_left _ (List.mem_append_left _ (List.mem_append_left _ (List.mem_append_left _ (List.mem_append_left _ (List.mem_append_left _ (List.mem_append_right _ h))))))
theorem inlX1 : ∀ w ∈ wsX10, w ∈ wsL_law := fun _ h => List.mem_append_left _ (List.mem_append_left _ (List.mem_append_left _ (List.mem_append_left _ (List.mem_append_left _ (List.mem_append_left _ (List.mem_append_left _ (List.mem_append_right _ h)))))))
theorem inlX2 : ∀ w ∈ wsX20, w ∈ wsL_law := fun _ h => List.mem_append_left _ (List.mem_append_left _ (List.mem_append_left _ (List.mem_append_left _ (List.mem_append_left _ (List.mem_append_left _ (List.mem_append_left _ (List.mem_append_left _ (List.mem_append_right _ h))))))))
theorem inlX3 : ∀ w ∈ wsX30, w ∈ wsL_law := fun _ h => List.mem_append_left _ (List.mem_append_left _ (List.mem_append_left _ (List.mem_append_left _ (List.mem_append_right _ h))))
theorem inlX4 : ∀ w ∈ wsX40, w ∈ wsL_law := fun _ h => List.mem_append_left _ (List.mem_append_left _ (List.mem_append_left _ (List.mem_append_left _ (List.mem_append_left _ (List.mem_append_right _ h)))))
theorem inlX5 : ∀ w ∈ wsX50, w ∈ wsL_law := fun _ h => List.mem_append_left _ (List.mem_append_left _ (List.mem_append_left _ (List.mem_append_left _ (List.mem_append_left _ (List.mem_append_left _ (List.mem_append_left _ (List.mem_append_left _ (List.mem_append_left _ (List.mem_append_left _ (List.mem_append_right _ h))))))))))
theorem inlJx4a65c : ∀ w ∈ wsJx4a65c0, w ∈ wsL_law := fun _ h => List.mem_append_left _ (List.mem_append_left _ (List.mem_append_left _ (List.mem_append_left _ (List.mem_append_left _ (List.mem_append_left _ (List.mem_append_left _ (List.mem_append_left _ (List.mem_append_left _ (List.mem_append_right _ h)))))))))
abbrev vwCl : List vw_C := [(RJx4a65c, TJx4a65c, 3), (RX0, TX0, 4), (RX1, TX1, 5), (RX2, TX2, 2), (RX3, TX3, 13), (RX4, TX4, 3), (RX5, TX5, 5)]
