/-! The classes by their names, the fields, the methods and their code (out of the printed names), and two walls of words: all that the reference's methods need of the tables, and all that the class's own need. -/
def RX0 : String := "SegmentMap$Edges"
def TX0 : u_T := fun k => match k with
  | 0 => ("SegmentMap$Edges", "line", "LSegmentMap$Row;", true)
  | 1 => ("SegmentMap$Edges", "start", "LSegmentMap$Row;", true)
  | 2 => ("SegmentMap$Edges", "end", "LSegmentMap$Row;", true)
  | 3 => ("SegmentMap$Edges", "above", "LSegmentMap$Row;", true)
  | 4 => ("SegmentMap$Edges", "face", "LSegmentMap$Row;", true)
  | _ => ("SegmentMap$Edges", "count", "I", false)
def tyX0 : Nat → FieldType := fun k => match k with
  | 0 => .object "SegmentMap$Row"
  | 1 => .object "SegmentMap$Row"
  | 2 => .object "SegmentMap$Row"
  | 3 => .object "SegmentMap$Row"
  | 4 => .object "SegmentMap$Row"
  | _ => .int
abbrev wsX00 : List Cond := u_ws RX0 TX0 6
theorem nmX0 : ∀ a, a < 6 → ∀ b, b < 6 → a ≠ b → (TX0 a).2.1 ≠ (TX0 b).2.1 := by decide +kernel
theorem tyX0_ok : ∀ k, k < 6 → parseFieldDescriptor (TX0 k).2.2.1 = some (tyX0 k) := by decide +kernel
abbrev cX0_init : ByteArray := prog_2_method_1_code
def yX0_init : MethodName := ⟨RX0, "<init>", "()V"⟩
abbrev cX0_clear : ByteArray := prog_2_method_2_code
def yX0_clear : MethodName := ⟨RX0, "clear", "()V"⟩
abbrev cX0_append : ByteArray := prog_2_method_3_code
def yX0_append : MethodName := ⟨RX0, "append", "(III)V"⟩
def RX1 : String := "SegmentMap$Faces"
def TX1 : u_T := fun k => match k with
  | 0 => ("SegmentMap$Faces", "first", "LSegmentMap$Row;", true)
  | 1 => ("SegmentMap$Faces", "sideCount", "LSegmentMap$Row;", true)
  | _ => ("SegmentMap$Faces", "count", "I", false)
def tyX1 : Nat → FieldType := fun k => match k with
  | 0 => .object "SegmentMap$Row"
  | 1 => .object "SegmentMap$Row"
  | _ => .int
abbrev wsX10 : List Cond := u_ws RX1 TX1 3
theorem nmX1 : ∀ a, a < 3 → ∀ b, b < 3 → a ≠ b → (TX1 a).2.1 ≠ (TX1 b).2.1 := by decide +kernel
theorem tyX1_ok : ∀ k, k < 3 → parseFieldDescriptor (TX1 k).2.2.1 = some (tyX1 k) := by decide +kernel
abbrev cX1_init : ByteArray := prog_3_method_1_code
def yX1_init : MethodName := ⟨RX1, "<init>", "()V"⟩
abbrev cX1_clear : ByteArray := prog_3_method_2_code
def yX1_clear : MethodName := ⟨RX1, "clear", "()V"⟩
abbrev cX1_append : ByteArray := prog_3_method_3_code
def yX1_append : MethodName := ⟨RX1, "append", "(I)I"⟩
abbrev cX1_countSide : ByteArray := prog_3_method_4_code
def yX1_countSide : MethodName := ⟨RX1, "countSide", "(I)V"⟩
def RX2 : String := "SegmentMap$Point"
def TX2 : u_T := fun k => match k with
  | 0 => ("SegmentMap$Point", "xOver", "J", false)
  | 1 => ("SegmentMap$Point", "xUnder", "J", false)
  | 2 => ("SegmentMap$Point", "yOver", "J", false)
  | _ => ("SegmentMap$Point", "yUnder", "J", false)
def tyX2 : Nat → FieldType := fun k => match k with
  | 0 => .long
  | 1 => .long
  | 2 => .long
  | _ => .long
abbrev wsX20 : List Cond := u_ws RX2 TX2 4
theorem nmX2 : ∀ a, a < 4 → ∀ b, b < 4 → a ≠ b → (TX2 a).2.1 ≠ (TX2 b).2.1 := by decide +kernel
theorem tyX2_ok : ∀ k, k < 4 → parseFieldDescriptor (TX2 k).2.2.1 = some (tyX2 k) := by decide +kernel
abbrev cX2_init : ByteArray := prog_4_method_1_code
def yX2_init : MethodName := ⟨RX2, "<init>", "()V"⟩
abbrev cX2_put : ByteArray := prog_4_method_2_code
def yX2_put : MethodName := ⟨RX2, "put", "(JJJ)V"⟩
abbrev cX2_copy : ByteArray := prog_4_method_3_code
def yX2_copy : MethodName := ⟨RX2, "copy", "(LSegmentMap$Point;)V"⟩
abbrev cX2_compareX : ByteArray := prog_4_method_4_code
def yX2_compareX : MethodName := ⟨RX2, "compareX", "(LSegmentMap$Point;)I"⟩
abbrev cX2_compareY : ByteArray := prog_4_method_5_code
def yX2_compareY : MethodName := ⟨RX2, "compareY", "(LSegmentMap$Point;)I"⟩
abbrev cX2_compareOrder : ByteArray := prog_4_method_6_code
def yX2_compareOrder : MethodName := ⟨RX2, "compareOrder", "(LSegmentMap$Point;)I"⟩
abbrev cX2_commonDivisor : ByteArray := prog_4_method_7_code
def yX2_commonDivisor : MethodName := ⟨RX2, "commonDivisor", "(JJ)J"⟩
def RX3 : String := "SegmentMap$Row"
def TX3 : u_T := fun k => match k with
  | _ => ("SegmentMap$Row", "cells", "[I", true)
def tyX3 : Nat → FieldType := fun k => match k with
  | _ => .array .int
abbrev wsX30 : List Cond := u_ws RX3 TX3 1
theorem nmX3 : ∀ a, a < 1 → ∀ b, b < 1 → a ≠ b → (TX3 a).2.1 ≠ (TX3 b).2.1 := by decide +kernel
theorem tyX3_ok : ∀ k, k < 1 → parseFieldDescriptor (TX3 k).2.2.1 = some (tyX3 k) := by decide +kernel
abbrev cX3_init : ByteArray := prog_5_method_1_code
def yX3_init : MethodName := ⟨RX3, "<init>", "(I)V"⟩
abbrev cX3_get : ByteArray := prog_5_method_2_code
def yX3_get : MethodName := ⟨RX3, "get", "(I)I"⟩
abbrev cX3_set : ByteArray := prog_5_method_3_code
def yX3_set : MethodName := ⟨RX3, "set", "(II)V"⟩
def RX4 : String := "SegmentMap$Segment"
def TX4 : u_T := fun k => match k with
  | 0 => ("SegmentMap$Segment", "startX", "I", true)
  | 1 => ("SegmentMap$Segment", "startY", "I", true)
  | 2 => ("SegmentMap$Segment", "endX", "I", true)
  | 3 => ("SegmentMap$Segment", "endY", "I", true)
  | 4 => ("SegmentMap$Segment", "run", "J", true)
  | _ => ("SegmentMap$Segment", "rise", "J", true)
def tyX4 : Nat → FieldType := fun k => match k with
  | 0 => .int
  | 1 => .int
  | 2 => .int
  | 3 => .int
  | 4 => .long
  | _ => .long
abbrev wsX40 : List Cond := u_ws RX4 TX4 6
theorem nmX4 : ∀ a, a < 6 → ∀ b, b < 6 → a ≠ b → (TX4 a).2.1 ≠ (TX4 b).2.1 := by decide +kernel
theorem tyX4_ok : ∀ k, k < 6 → parseFieldDescriptor (TX4 k).2.2.1 = some (tyX4 k) := by decide +kernel
abbrev cX4_init : ByteArray := prog_6_method_1_code
def yX4_init : MethodName := ⟨RX4, "<init>", "(IIII)V"⟩
abbrev cX4_turn : ByteArray := prog_6_method_2_code
def yX4_turn : MethodName := ⟨RX4, "turn", "(LSegmentMap$Segment;)J"⟩
abbrev cX4_compareSlopes : ByteArray := prog_6_method_3_code
def yX4_compareSlopes : MethodName := ⟨RX4, "compareSlopes", "(LSegmentMap$Segment;)I"⟩
abbrev cX4_isParallel : ByteArray := prog_6_method_4_code
def yX4_isParallel : MethodName := ⟨RX4, "isParallel", "(LSegmentMap$Segment;)Z"⟩
abbrev cX4_share : ByteArray := prog_6_method_5_code
def yX4_share : MethodName := ⟨RX4, "share", "(LSegmentMap$Segment;)J"⟩
abbrev cX4_touches : ByteArray := prog_6_method_6_code
def yX4_touches : MethodName := ⟨RX4, "touches", "(LSegmentMap$Segment;)Z"⟩
abbrev cX4_overlaps : ByteArray := prog_6_method_7_code
def yX4_overlaps : MethodName := ⟨RX4, "overlaps", "(LSegmentMap$Segment;)Z"⟩
abbrev cX4_isPart : ByteArray := prog_6_method_8_code
def yX4_isPart : MethodName := ⟨RX4, "isPart", "(JJ)Z"⟩
abbrev cX4_commonStretch : ByteArray := prog_6_method_9_code
def yX4_commonStretch : MethodName := ⟨RX4, "commonStretch", "(LSegmentMap$Segment;)I"⟩
abbrev cX4_rank : ByteArray := prog_6_method_10_code
def yX4_rank : MethodName := ⟨RX4, "rank", "(II)I"⟩
abbrev cX4_putMeeting : ByteArray := prog_6_method_11_code
def yX4_putMeeting : MethodName := ⟨RX4, "putMeeting", "(LSegmentMap$Segment;LSegmentMap$Point;)V"⟩
abbrev cX4_height : ByteArray := prog_6_method_12_code
def yX4_height : MethodName := ⟨RX4, "height", "(LSegmentMap$Point;)J"⟩
abbrev cX4_compareHeight : ByteArray := prog_6_method_13_code
def yX4_compareHeight : MethodName := ⟨RX4, "compareHeight", "(LSegmentMap$Point;)I"⟩
abbrev cX4_compareHeights : ByteArray := prog_6_method_14_code
def yX4_compareHeights : MethodName := ⟨RX4, "compareHeights", "(LSegmentMap$Segment;LSegmentMap$Point;)I"⟩
abbrev cX4_spans : ByteArray := prog_6_method_15_code
def yX4_spans : MethodName := ⟨RX4, "spans", "(I)Z"⟩
abbrev cX4_holds : ByteArray := prog_6_method_16_code
def yX4_holds : MethodName := ⟨RX4, "holds", "(LSegmentMap$Point;)Z"⟩
def RX5 : String := "SegmentMap$Vertices"
def TX5 : u_T := fun k => match k with
  | 0 => ("SegmentMap$Vertices", "points", "[LSegmentMap$Point;", true)
  | 1 => ("SegmentMap$Vertices", "noPoint", "LSegmentMap$Point;", true)
  | 2 => ("SegmentMap$Vertices", "outgoing", "LSegmentMap$Row;", true)
  | 3 => ("SegmentMap$Vertices", "lowest", "LSegmentMap$Row;", true)
  | 4 => ("SegmentMap$Vertices", "top", "LSegmentMap$Row;", true)
  | 5 => ("SegmentMap$Vertices", "root", "LSegmentMap$Row;", true)
  | _ => ("SegmentMap$Vertices", "count", "I", false)
def tyX5 : Nat → FieldType := fun k => match k with
  | 0 => .array (.object "SegmentMap$Point")
  | 1 => .object "SegmentMap$Point"
  | 2 => .object "SegmentMap$Row"
  | 3 => .object "SegmentMap$Row"
  | 4 => .object "SegmentMap$Row"
  | 5 => .object "SegmentMap$Row"
  | _ => .int
abbrev wsX50 : List Cond := u_ws RX5 TX5 7
theorem nmX5 : ∀ a, a < 7 → ∀ b, b < 7 → a ≠ b → (TX5 a).2.1 ≠ (TX5 b).2.1 := by decide +kernel
theorem tyX5_ok : ∀ k, k < 7 → parseFieldDescriptor (TX5 k).2.2.1 = some (tyX5 k) := by decide +kernel
abbrev cX5_init : ByteArray := prog_7_method_1_code
def yX5_init : MethodName := ⟨RX5, "<init>", "()V"⟩
abbrev cX5_clear : ByteArray := prog_7_method_2_code
def yX5_clear : MethodName := ⟨RX5, "clear", "()V"⟩
abbrev cX5_at : ByteArray := prog_7_method_3_code
def yX5_at : MethodName := ⟨RX5, "at", "(I)LSegmentMap$Point;"⟩
abbrev cX5_include : ByteArray := prog_7_method_4_code
def yX5_include : MethodName := ⟨RX5, "include", "(LSegmentMap$Point;)V"⟩
abbrev cX5_insert : ByteArray := prog_7_method_5_code
def yX5_insert : MethodName := ⟨RX5, "insert", "(ILSegmentMap$Point;)V"⟩
abbrev cX5_resetSides : ByteArray := prog_7_method_6_code
def yX5_resetSides : MethodName := ⟨RX5, "resetSides", "()V"⟩
abbrev cX5_join : ByteArray := prog_7_method_7_code
def yX5_join : MethodName := ⟨RX5, "join", "(II)V"⟩
def RX6 : String := "SegmentMap"
def TX6 : u_T := fun k => match k with
  | 0 => ("SegmentMap", "lines", "Ljava/util/ArrayList;", true)
  | 1 => ("SegmentMap", "noLine", "LSegmentMap$Segment;", true)
  | 2 => ("SegmentMap", "corners", "LSegmentMap$Vertices;", true)
  | 3 => ("SegmentMap", "pieces", "LSegmentMap$Edges;", true)
  | 4 => ("SegmentMap", "regions", "LSegmentMap$Faces;", true)
  | 5 => ("SegmentMap", "bySlope", "LSegmentMap$Row;", true)
  | 6 => ("SegmentMap", "probe", "LSegmentMap$Point;", true)
  | _ => ("SegmentMap", "componentCount", "I", false)
def tyX6 : Nat → FieldType := fun k => match k with
  | 0 => .object "java/util/ArrayList"
  | 1 => .object "SegmentMap$Segment"
  | 2 => .object "SegmentMap$Vertices"
  | 3 => .object "SegmentMap$Edges"
  | 4 => .object "SegmentMap$Faces"
  | 5 => .object "SegmentMap$Row"
  | 6 => .object "SegmentMap$Point"
  | _ => .int
abbrev wsX60 : List Cond := u_ws RX6 TX6 8
theorem nmX6 : ∀ a, a < 8 → ∀ b, b < 8 → a ≠ b → (TX6 a).2.1 ≠ (TX6 b).2.1 := by decide +kernel
theorem tyX6_ok : ∀ k, k < 8 → parseFieldDescriptor (TX6 k).2.2.1 = some (tyX6 k) := by decide +kernel
abbrev cX6_init : ByteArray := prog_1_method_1_code
def yX6_init : MethodName := ⟨RX6, "<init>", "()V"⟩
abbrev cX6_add : ByteArray := prog_1_method_2_code
def yX6_add : MethodName := ⟨RX6, "add", "(IIII)I"⟩
abbrev cX6_remove : ByteArray := prog_1_method_3_code
def yX6_remove : MethodName := ⟨RX6, "remove", "(I)I"⟩
abbrev cX6_segments : ByteArray := prog_1_method_4_code
def yX6_segments : MethodName := ⟨RX6, "segments", "()I"⟩
abbrev cX6_meet : ByteArray := prog_1_method_5_code
def yX6_meet : MethodName := ⟨RX6, "meet", "(II)Z"⟩
abbrev cX6_vertices : ByteArray := prog_1_method_6_code
def yX6_vertices : MethodName := ⟨RX6, "vertices", "()I"⟩
abbrev cX6_edges : ByteArray := prog_1_method_7_code
def yX6_edges : MethodName := ⟨RX6, "edges", "()I"⟩
abbrev cX6_faces : ByteArray := prog_1_method_8_code
def yX6_faces : MethodName := ⟨RX6, "faces", "()I"⟩
abbrev cX6_components : ByteArray := prog_1_method_9_code
def yX6_components : MethodName := ⟨RX6, "components", "()I"⟩
abbrev cX6_xNumerator : ByteArray := prog_1_method_10_code
def yX6_xNumerator : MethodName := ⟨RX6, "xNumerator", "(I)I"⟩
abbrev cX6_xDenominator : ByteArray := prog_1_method_11_code
def yX6_xDenominator : MethodName := ⟨RX6, "xDenominator", "(I)I"⟩
abbrev cX6_yNumerator : ByteArray := prog_1_method_12_code
def yX6_yNumerator : MethodName := ⟨RX6, "yNumerator", "(I)I"⟩
abbrev cX6_yDenominator : ByteArray := prog_1_method_13_code
def yX6_yDenominator : MethodName := ⟨RX6, "yDenominator", "(I)I"⟩
abbrev cX6_degree : ByteArray := prog_1_method_14_code
def yX6_degree : MethodName := ⟨RX6, "degree", "(I)I"⟩
abbrev cX6_segmentOf : ByteArray := prog_1_method_15_code
def yX6_segmentOf : MethodName := ⟨RX6, "segmentOf", "(I)I"⟩
abbrev cX6_from : ByteArray := prog_1_method_16_code
def yX6_from : MethodName := ⟨RX6, "from", "(I)I"⟩
abbrev cX6_to : ByteArray := prog_1_method_17_code
def yX6_to : MethodName := ⟨RX6, "to", "(I)I"⟩
abbrev cX6_leftOf : ByteArray := prog_1_method_18_code
def yX6_leftOf : MethodName := ⟨RX6, "leftOf", "(I)I"⟩
abbrev cX6_rightOf : ByteArray := prog_1_method_19_code
def yX6_rightOf : MethodName := ⟨RX6, "rightOf", "(I)I"⟩
abbrev cX6_sides : ByteArray := prog_1_method_20_code
def yX6_sides : MethodName := ⟨RX6, "sides", "(I)I"⟩
abbrev cX6_firstVertex : ByteArray := prog_1_method_21_code
def yX6_firstVertex : MethodName := ⟨RX6, "firstVertex", "(I)I"⟩
abbrev cX6_faceAt : ByteArray := prog_1_method_22_code
def yX6_faceAt : MethodName := ⟨RX6, "faceAt", "(II)I"⟩
abbrev cX6_crossing : ByteArray := prog_1_method_23_code
def yX6_crossing : MethodName := ⟨RX6, "crossing", "(I)I"⟩
abbrev cX6_crossingAt : ByteArray := prog_1_method_24_code
def yX6_crossingAt : MethodName := ⟨RX6, "crossingAt", "(II)I"⟩
abbrev cX6_placeAt : ByteArray := prog_1_method_25_code
def yX6_placeAt : MethodName := ⟨RX6, "placeAt", "(II)I"⟩
abbrev cX6_isBefore : ByteArray := prog_1_method_26_code
def yX6_isBefore : MethodName := ⟨RX6, "isBefore", "(IILSegmentMap$Point;)Z"⟩
abbrev cX6_checkCoordinate : ByteArray := prog_1_method_27_code
def yX6_checkCoordinate : MethodName := ⟨RX6, "checkCoordinate", "(I)V"⟩
abbrev cX6_checkSegment : ByteArray := prog_1_method_28_code
def yX6_checkSegment : MethodName := ⟨RX6, "checkSegment", "(I)V"⟩
abbrev cX6_checkVertex : ByteArray := prog_1_method_29_code
def yX6_checkVertex : MethodName := ⟨RX6, "checkVertex", "(I)V"⟩
abbrev cX6_checkEdge : ByteArray := prog_1_method_30_code
def yX6_checkEdge : MethodName := ⟨RX6, "checkEdge", "(I)V"⟩
abbrev cX6_checkFace : ByteArray := prog_1_method_31_code
def yX6_checkFace : MethodName := ⟨RX6, "checkFace", "(I)V"⟩
abbrev cX6_lineAt : ByteArray := prog_1_method_32_code
def yX6_lineAt : MethodName := ⟨RX6, "lineAt", "(I)LSegmentMap$Segment;"⟩
abbrev cX6_overlapsAnyLine : ByteArray := prog_1_method_33_code
def yX6_overlapsAnyLine : MethodName := ⟨RX6, "overlapsAnyLine", "(LSegmentMap$Segment;)Z"⟩
abbrev cX6_rebuild : ByteArray := prog_1_method_34_code
def yX6_rebuild : MethodName := ⟨RX6, "rebuild", "()V"⟩
abbrev cX6_gatherVertices : ByteArray := prog_1_method_35_code
def yX6_gatherVertices : MethodName := ⟨RX6, "gatherVertices", "()V"⟩
abbrev cX6_includeMeeting : ByteArray := prog_1_method_36_code
def yX6_includeMeeting : MethodName := ⟨RX6, "includeMeeting", "(LSegmentMap$Segment;LSegmentMap$Segment;)V"⟩
abbrev cX6_gatherEdges : ByteArray := prog_1_method_37_code
def yX6_gatherEdges : MethodName := ⟨RX6, "gatherEdges", "()V"⟩
abbrev cX6_sortBySlope : ByteArray := prog_1_method_38_code
def yX6_sortBySlope : MethodName := ⟨RX6, "sortBySlope", "()V"⟩
abbrev cX6_spreadEdges : ByteArray := prog_1_method_39_code
def yX6_spreadEdges : MethodName := ⟨RX6, "spreadEdges", "()V"⟩
abbrev cX6_spreadLine : ByteArray := prog_1_method_40_code
def yX6_spreadLine : MethodName := ⟨RX6, "spreadLine", "(IZ)V"⟩
abbrev cX6_spreadSide : ByteArray := prog_1_method_41_code
def yX6_spreadSide : MethodName := ⟨RX6, "spreadSide", "(II)V"⟩
abbrev cX6_joinComponents : ByteArray := prog_1_method_42_code
def yX6_joinComponents : MethodName := ⟨RX6, "joinComponents", "()V"⟩
abbrev cX6_gatherFaces : ByteArray := prog_1_method_43_code
def yX6_gatherFaces : MethodName := ⟨RX6, "gatherFaces", "()V"⟩
abbrev cX6_paintBorder : ByteArray := prog_1_method_44_code
def yX6_paintBorder : MethodName := ⟨RX6, "paintBorder", "(II)V"⟩
abbrev cX6_faceLeftOf : ByteArray := prog_1_method_45_code
def yX6_faceLeftOf : MethodName := ⟨RX6, "faceLeftOf", "(LSegmentMap$Point;)I"⟩
abbrev cX6_isUnder : ByteArray := prog_1_method_46_code
def yX6_isUnder : MethodName := ⟨RX6, "isUnder", "(ILSegmentMap$Point;)Z"⟩
abbrev cX6_isHigher : ByteArray := prog_1_method_47_code
def yX6_isHigher : MethodName := ⟨RX6, "isHigher", "(IILSegmentMap$Point;)Z"⟩
def RX7 : String := "SegmentMapModel"
def TX7 : u_T := fun k => match k with
  | _ => ("", "", "", false)
def tyX7 : Nat → FieldType := fun k => match k with
  | _ => .int
abbrev wsX70 : List Cond := u_ws RX7 TX7 0
theorem nmX7 : ∀ a, a < 0 → ∀ b, b < 0 → a ≠ b → (TX7 a).2.1 ≠ (TX7 b).2.1 := by decide +kernel
theorem tyX7_ok : ∀ k, k < 0 → parseFieldDescriptor (TX7 k).2.2.1 = some (tyX7 k) := by decide +kernel
def RJx145de : String := "java/io/Serializable"
def TJx145de : u_T := fun k => match k with
  | _ => ("", "", "", false)
def tyJx145de : Nat → FieldType := fun k => match k with
  | _ => .int
abbrev wsJx145de0 : List Cond := u_ws RJx145de TJx145de 0
theorem nmJx145de : ∀ a, a < 0 → ∀ b, b < 0 → a ≠ b → (TJx145de a).2.1 ≠ (TJx145de b).2.1 := by decide +kernel
theorem tyJx145de_ok : ∀ k, k < 0 → parseFieldDescriptor (TJx145de k).2.2.1 = some (tyJx145de k) := by decide +kernel
def RJx8e188 : String := "java/lang/Cloneable"
def TJx8e188 : u_T := fun k => match k with
  | _ => ("", "", "", false)
def tyJx8e188 : Nat → FieldType := fun k => match k with
  | _ => .int
abbrev wsJx8e1880 : List Cond := u_ws RJx8e188 TJx8e188 0
theorem nmJx8e188 : ∀ a, a < 0 → ∀ b, b < 0 → a ≠ b → (TJx8e188 a).2.1 ≠ (TJx8e188 b).2.1 := by decide +kernel
theorem tyJx8e188_ok : ∀ k, k < 0 → parseFieldDescriptor (TJx8e188 k).2.2.1 = some (tyJx8e188 k) := by decide +kernel
def RJxab1ab : String := "java/lang/Iterable"
def TJxab1ab : u_T := fun k => match k with
  | _ => ("", "", "", false)
def tyJxab1ab : Nat → FieldType := fun k => match k with
  | _ => .int
abbrev wsJxab1ab0 : List Cond := u_ws RJxab1ab TJxab1ab 0
theorem nmJxab1ab : ∀ a, a < 0 → ∀ b, b < 0 → a ≠ b → (TJxab1ab a).2.1 ≠ (TJxab1ab b).2.1 := by decide +kernel
theorem tyJxab1ab_ok : ∀ k, k < 0 → parseFieldDescriptor (TJxab1ab k).2.2.1 = some (tyJxab1ab k) := by decide +kernel
def RJ13 : String := "java/lang/Long"
def TJ13 : u_T := fun k => match k with
  | _ => ("", "", "", false)
def tyJ13 : Nat → FieldType := fun k => match k with
  | _ => .int
abbrev wsJ130 : List Cond := u_ws RJ13 TJ13 0
theorem nmJ13 : ∀ a, a < 0 → ∀ b, b < 0 → a ≠ b → (TJ13 a).2.1 ≠ (TJ13 b).2.1 := by decide +kernel
theorem tyJ13_ok : ∀ k, k < 0 → parseFieldDescriptor (TJ13 k).2.2.1 = some (tyJ13 k) := by decide +kernel
abbrev cJ13_compare_74951 : ByteArray := prog_17_method_42_code
def yJ13_compare_74951 : MethodName := ⟨RJ13, "compare", "(JJ)I"⟩
def RJ9 : String := "java/lang/Math"
def TJ9 : u_T := fun k => match k with
  | _ => ("", "", "", false)
def tyJ9 : Nat → FieldType := fun k => match k with
  | _ => .int
abbrev wsJ90 : List Cond := u_ws RJ9 TJ9 0
theorem nmJ9 : ∀ a, a < 0 → ∀ b, b < 0 → a ≠ b → (TJ9 a).2.1 ≠ (TJ9 b).2.1 := by decide +kernel
theorem tyJ9_ok : ∀ k, k < 0 → parseFieldDescriptor (TJ9 k).2.2.1 = some (tyJ9 k) := by decide +kernel
abbrev cJ9_abs_067f4 : ByteArray := prog_18_method_61_code
def yJ9_abs_067f4 : MethodName := ⟨RJ9, "abs", "(J)J"⟩
abbrev cJ9_max_7cf53 : ByteArray := prog_18_method_65_code
def yJ9_max_7cf53 : MethodName := ⟨RJ9, "max", "(II)I"⟩
abbrev cJ9_min_7cf53 : ByteArray := prog_18_method_69_code
def yJ9_min_7cf53 : MethodName := ⟨RJ9, "min", "(II)I"⟩
def RJ0 : String := "java/lang/String"
def TJ0 : u_T := fun k => match k with
  | _ => ("", "", "", false)
def tyJ0 : Nat → FieldType := fun k => match k with
  | _ => .int
abbrev wsJ00 : List Cond := u_ws RJ0 TJ0 0
theorem nmJ0 : ∀ a, a < 0 → ∀ b, b < 0 → a ≠ b → (TJ0 a).2.1 ≠ (TJ0 b).2.1 := by decide +kernel
theorem tyJ0_ok : ∀ k, k < 0 → parseFieldDescriptor (TJ0 k).2.2.1 = some (tyJ0 k) := by decide +kernel
def RJ10 : String := "java/lang/System"
def TJ10 : u_T := fun k => match k with
  | _ => ("", "", "", false)
def tyJ10 : Nat → FieldType := fun k => match k with
  | _ => .int
abbrev wsJ100 : List Cond := u_ws RJ10 TJ10 0
theorem nmJ10 : ∀ a, a < 0 → ∀ b, b < 0 → a ≠ b → (TJ10 a).2.1 ≠ (TJ10 b).2.1 := by decide +kernel
theorem tyJ10_ok : ∀ k, k < 0 → parseFieldDescriptor (TJ10 k).2.2.1 = some (tyJ10 k) := by decide +kernel
def RJxa1e45 : String := "java/util/AbstractCollection"
def TJxa1e45 : u_T := fun k => match k with
  | _ => ("", "", "", false)
def tyJxa1e45 : Nat → FieldType := fun k => match k with
  | _ => .int
abbrev wsJxa1e450 : List Cond := u_ws RJxa1e45 TJxa1e45 0
theorem nmJxa1e45 : ∀ a, a < 0 → ∀ b, b < 0 → a ≠ b → (TJxa1e45 a).2.1 ≠ (TJxa1e45 b).2.1 := by decide +kernel
theorem tyJxa1e45_ok : ∀ k, k < 0 → parseFieldDescriptor (TJxa1e45 k).2.2.1 = some (tyJxa1e45 k) := by decide +kernel
abbrev cJxa1e45_init_da8c8 : ByteArray := prog_23_method_1_code
def yJxa1e45_init_da8c8 : MethodName := ⟨RJxa1e45, "<init>", "()V"⟩
def RJxc12de : String := "java/util/AbstractList"
def TJxc12de : u_T := fun k => match k with
  | _ => ("", "", "", false)
def tyJxc12de : Nat → FieldType := fun k => match k with
  | _ => .int
abbrev wsJxc12de0 : List Cond := u_ws RJxc12de TJxc12de 0
theorem nmJxc12de : ∀ a, a < 0 → ∀ b, b < 0 → a ≠ b → (TJxc12de a).2.1 ≠ (TJxc12de b).2.1 := by decide +kernel
theorem tyJxc12de_ok : ∀ k, k < 0 → parseFieldDescriptor (TJxc12de k).2.2.1 = some (tyJxc12de k) := by decide +kernel
abbrev cJxc12de_init_da8c8 : ByteArray := prog_24_method_1_code
def yJxc12de_init_da8c8 : MethodName := ⟨RJxc12de, "<init>", "()V"⟩
def RJx4a65c : String := "java/util/ArrayList"
def TJx4a65c : u_T := fun k => match k with
  | 0 => ("java/util/AbstractList", "modCount", "I", false)
  | 1 => ("java/util/ArrayList", "elementData", "[Ljava/lang/Object;", false)
  | _ => ("java/util/ArrayList", "size", "I", false)
def tyJx4a65c : Nat → FieldType := fun k => match k with
  | 0 => .int
  | 1 => .array (.object "java/lang/Object")
  | _ => .int
abbrev wsJx4a65c0 : List Cond := u_ws RJx4a65c TJx4a65c 3
theorem nmJx4a65c : ∀ a, a < 3 → ∀ b, b < 3 → a ≠ b → (TJx4a65c a).2.1 ≠ (TJx4a65c b).2.1 := by decide +kernel
theorem tyJx4a65c_ok : ∀ k, k < 3 → parseFieldDescriptor (TJx4a65c k).2.2.1 = some (tyJx4a65c k) := by decide +kernel
abbrev cJx4a65c_init_da8c8 : ByteArray := prog_25_method_2_code
def yJx4a65c_init_da8c8 : MethodName := ⟨RJx4a65c, "<init>", "()V"⟩
abbrev cJx4a65c_grow_92f84 : ByteArray := prog_25_method_6_code
def yJx4a65c_grow_92f84 : MethodName := ⟨RJx4a65c, "grow", "(I)[Ljava/lang/Object;"⟩
abbrev cJx4a65c_grow_d5877 : ByteArray := prog_25_method_7_code
def yJx4a65c_grow_d5877 : MethodName := ⟨RJx4a65c, "grow", "()[Ljava/lang/Object;"⟩
abbrev cJx4a65c_size_8abf5 : ByteArray := prog_25_method_8_code
def yJx4a65c_size_8abf5 : MethodName := ⟨RJx4a65c, "size", "()I"⟩
abbrev cJx4a65c_elementData_915e3 : ByteArray := prog_25_method_18_code
def yJx4a65c_elementData_915e3 : MethodName := ⟨RJx4a65c, "elementData", "(I)Ljava/lang/Object;"⟩
abbrev cJx4a65c_get_915e3 : ByteArray := prog_25_method_20_code
def yJx4a65c_get_915e3 : MethodName := ⟨RJx4a65c, "get", "(I)Ljava/lang/Object;"⟩
abbrev cJx4a65c_add_72be8 : ByteArray := prog_25_method_24_code
def yJx4a65c_add_72be8 : MethodName := ⟨RJx4a65c, "add", "(Ljava/lang/Object;[Ljava/lang/Object;I)V"⟩
abbrev cJx4a65c_add_9ea2d : ByteArray := prog_25_method_25_code
def yJx4a65c_add_9ea2d : MethodName := ⟨RJx4a65c, "add", "(Ljava/lang/Object;)Z"⟩
abbrev cJx4a65c_remove_915e3 : ByteArray := prog_25_method_29_code
def yJx4a65c_remove_915e3 : MethodName := ⟨RJx4a65c, "remove", "(I)Ljava/lang/Object;"⟩
abbrev cJx4a65c_fastRemove_b59b0 : ByteArray := prog_25_method_39_code
def yJx4a65c_fastRemove_b59b0 : MethodName := ⟨RJx4a65c, "fastRemove", "([Ljava/lang/Object;I)V"⟩
def RJ7 : String := "java/util/Arrays"
def TJ7 : u_T := fun k => match k with
  | _ => ("", "", "", false)
def tyJ7 : Nat → FieldType := fun k => match k with
  | _ => .int
abbrev wsJ70 : List Cond := u_ws RJ7 TJ7 0
theorem nmJ7 : ∀ a, a < 0 → ∀ b, b < 0 → a ≠ b → (TJ7 a).2.1 ≠ (TJ7 b).2.1 := by decide +kernel
theorem tyJ7_ok : ∀ k, k < 0 → parseFieldDescriptor (TJ7 k).2.2.1 = some (tyJ7 k) := by decide +kernel
abbrev cJ7_copyOf_1904c : ByteArray := prog_26_method_119_code
def yJ7_copyOf_1904c : MethodName := ⟨RJ7, "copyOf", "([Ljava/lang/Object;I)[Ljava/lang/Object;"⟩
abbrev cJ7_copyOf_6403c : ByteArray := prog_26_method_120_code
def yJ7_copyOf_6403c : MethodName := ⟨RJ7, "copyOf", "([Ljava/lang/Object;ILjava/lang/Class;)[Ljava/lang/Object;"⟩
def RJx5ef63 : String := "java/util/Collection"
def TJx5ef63 : u_T := fun k => match k with
  | _ => ("", "", "", false)
def tyJx5ef63 : Nat → FieldType := fun k => match k with
  | _ => .int
abbrev wsJx5ef630 : List Cond := u_ws RJx5ef63 TJx5ef63 0
theorem nmJx5ef63 : ∀ a, a < 0 → ∀ b, b < 0 → a ≠ b → (TJx5ef63 a).2.1 ≠ (TJx5ef63 b).2.1 := by decide +kernel
theorem tyJx5ef63_ok : ∀ k, k < 0 → parseFieldDescriptor (TJx5ef63 k).2.2.1 = some (tyJx5ef63 k) := by decide +kernel
def RJxbd725 : String := "java/util/List"
def TJxbd725 : u_T := fun k => match k with
  | _ => ("", "", "", false)
def tyJxbd725 : Nat → FieldType := fun k => match k with
  | _ => .int
abbrev wsJxbd7250 : List Cond := u_ws RJxbd725 TJxbd725 0
theorem nmJxbd725 : ∀ a, a < 0 → ∀ b, b < 0 → a ≠ b → (TJxbd725 a).2.1 ≠ (TJxbd725 b).2.1 := by decide +kernel
theorem tyJxbd725_ok : ∀ k, k < 0 → parseFieldDescriptor (TJxbd725 k).2.2.1 = some (tyJxbd725 k) := by decide +kernel
def RJ15 : String := "java/util/Objects"
def TJ15 : u_T := fun k => match k with
  | _ => ("", "", "", false)
def tyJ15 : Nat → FieldType := fun k => match k with
  | _ => .int
abbrev wsJ150 : List Cond := u_ws RJ15 TJ15 0
theorem nmJ15 : ∀ a, a < 0 → ∀ b, b < 0 → a ≠ b → (TJ15 a).2.1 ≠ (TJ15 b).2.1 := by decide +kernel
theorem tyJ15_ok : ∀ k, k < 0 → parseFieldDescriptor (TJ15 k).2.2.1 = some (tyJ15 k) := by decide +kernel
abbrev cJ15_checkIndex_7cf53 : ByteArray := prog_29_method_17_code
def yJ15_checkIndex_7cf53 : MethodName := ⟨RJ15, "checkIndex", "(II)I"⟩
def RJxf0a74 : String := "java/util/RandomAccess"
def TJxf0a74 : u_T := fun k => match k with
  | _ => ("", "", "", false)
def tyJxf0a74 : Nat → FieldType := fun k => match k with
  | _ => .int
abbrev wsJxf0a740 : List Cond := u_ws RJxf0a74 TJxf0a74 0
theorem nmJxf0a74 : ∀ a, a < 0 → ∀ b, b < 0 → a ≠ b → (TJxf0a74 a).2.1 ≠ (TJxf0a74 b).2.1 := by decide +kernel
theorem tyJxf0a74_ok : ∀ k, k < 0 → parseFieldDescriptor (TJxf0a74 k).2.2.1 = some (tyJxf0a74 k) := by decide +kernel
def RJxa66e6 : String := "java/util/SequencedCollection"
def TJxa66e6 : u_T := fun k => match k with
  | _ => ("", "", "", false)
def tyJxa66e6 : Nat → FieldType := fun k => match k with
  | _ => .int
abbrev wsJxa66e60 : List Cond := u_ws RJxa66e6 TJxa66e6 0
theorem nmJxa66e6 : ∀ a, a < 0 → ∀ b, b < 0 → a ≠ b → (TJxa66e6 a).2.1 ≠ (TJxa66e6 b).2.1 := by decide +kernel
theorem tyJxa66e6_ok : ∀ k, k < 0 → parseFieldDescriptor (TJxa66e6 k).2.2.1 = some (tyJxa66e6 k) := by decide +kernel
def RJ8 : String := "jdk/internal/util/ArraysSupport"
def TJ8 : u_T := fun k => match k with
  | _ => ("", "", "", false)
def tyJ8 : Nat → FieldType := fun k => match k with
  | _ => .int
abbrev wsJ80 : List Cond := u_ws RJ8 TJ8 0
theorem nmJ8 : ∀ a, a < 0 → ∀ b, b < 0 → a ≠ b → (TJ8 a).2.1 ≠ (TJ8 b).2.1 := by decide +kernel
theorem tyJ8_ok : ∀ k, k < 0 → parseFieldDescriptor (TJ8 k).2.2.1 = some (tyJ8 k) := by decide +kernel
abbrev cJ8_newLength_cabcc : ByteArray := prog_32_method_27_code
def yJ8_newLength_cabcc : MethodName := ⟨RJ8, "newLength", "(III)I"⟩
abbrev cJ8_hugeLength_7cf53 : ByteArray := prog_32_method_28_code
def yJ8_hugeLength_7cf53 : MethodName := ⟨RJ8, "hugeLength", "(II)I"⟩
def RJ3 : String := "jdk/internal/util/Preconditions"
def TJ3 : u_T := fun k => match k with
  | _ => ("", "", "", false)
def tyJ3 : Nat → FieldType := fun k => match k with
  | _ => .int
abbrev wsJ30 : List Cond := u_ws RJ3 TJ3 0
theorem nmJ3 : ∀ a, a < 0 → ∀ b, b < 0 → a ≠ b → (TJ3 a).2.1 ≠ (TJ3 b).2.1 := by decide +kernel
theorem tyJ3_ok : ∀ k, k < 0 → parseFieldDescriptor (TJ3 k).2.2.1 = some (tyJ3 k) := by decide +kernel
abbrev cJ3_checkIndex_8e157 : ByteArray := prog_33_method_11_code
def yJ3_checkIndex_8e157 : MethodName := ⟨RJ3, "checkIndex", "(IILjava/util/function/BiFunction;)I"⟩
def RL : String := "SegmentMapLaw"
abbrev cL_dice : ByteArray := method_2_code
def yL_dice : MethodName := ⟨RL, "dice", "([II)I"⟩
abbrev cL_add : ByteArray := method_3_code
def yL_add : MethodName := ⟨RL, "add", "(LSegmentMap;IIII)I"⟩
abbrev cL_of : ByteArray := method_4_code
def yL_of : MethodName := ⟨RL, "of", "(LSegmentMap;II)I"⟩
abbrev cL_at : ByteArray := method_5_code
def yL_at : MethodName := ⟨RL, "at", "(LSegmentMap;III)I"⟩
abbrev cL_dx : ByteArray := method_6_code
def yL_dx : MethodName := ⟨RL, "dx", "([II)J"⟩
abbrev cL_dy : ByteArray := method_7_code
def yL_dy : MethodName := ⟨RL, "dy", "([II)J"⟩
abbrev cL_all : ByteArray := method_8_code
def yL_all : MethodName := ⟨RL, "all", "(LSegmentMap;)J"⟩
abbrev cL_isLowest : ByteArray := method_9_code
def yL_isLowest : MethodName := ⟨RL, "isLowest", "(II)Z"⟩
abbrev cL_isOn : ByteArray := method_10_code
def yL_isOn : MethodName := ⟨RL, "isOn", "(LSegmentMap;[III)Z"⟩
abbrev cL_areVertices : ByteArray := method_11_code
def yL_areVertices : MethodName := ⟨RL, "areVertices", "(LSegmentMap;[I[I)Z"⟩
abbrev cL_isEnd : ByteArray := method_12_code
def yL_isEnd : MethodName := ⟨RL, "isEnd", "(LSegmentMap;III)Z"⟩
abbrev cL_areEdges : ByteArray := method_13_code
def yL_areEdges : MethodName := ⟨RL, "areEdges", "(LSegmentMap;[I[I)Z"⟩
abbrev cL_areFaces : ByteArray := method_14_code
def yL_areFaces : MethodName := ⟨RL, "areFaces", "(LSegmentMap;)Z"⟩
abbrev cL_height : ByteArray := method_15_code
def yL_height : MethodName := ⟨RL, "height", "([III)J"⟩
abbrev cL_isAbove : ByteArray := method_16_code
def yL_isAbove : MethodName := ⟨RL, "isAbove", "([IIII)Z"⟩
abbrev cL_isAt : ByteArray := method_17_code
def yL_isAt : MethodName := ⟨RL, "isAt", "(LSegmentMap;[I[III)Z"⟩
abbrev cL_isLine : ByteArray := method_18_code
def yL_isLine : MethodName := ⟨RL, "isLine", "(LSegmentMap;[I[II)Z"⟩
abbrev cL_isCovering : ByteArray := method_19_code
def yL_isCovering : MethodName := ⟨RL, "isCovering", "([III)Z"⟩
abbrev cL_areMeeting : ByteArray := method_20_code
def yL_areMeeting : MethodName := ⟨RL, "areMeeting", "(LSegmentMap;[I[III)Z"⟩
abbrev cL_isRefused : ByteArray := method_21_code
def yL_isRefused : MethodName := ⟨RL, "isRefused", "(LSegmentMap;[II)Z"⟩
abbrev cL_isAdded : ByteArray := method_22_code
def yL_isAdded : MethodName := ⟨RL, "isAdded", "(LSegmentMap;[I[IIIII)Z"⟩
abbrev cL_isRemoved : ByteArray := method_23_code
def yL_isRemoved : MethodName := ⟨RL, "isRemoved", "(LSegmentMap;[I[II)Z"⟩
abbrev cL_law : ByteArray := code
def yL_law : MethodName := ⟨RL, "law", "([I)Z"⟩
abbrev vwCl : List vw_C := [(RJx4a65c, TJx4a65c, 3), (RX0, TX0, 6), (RX1, TX1, 3), (RX2, TX2, 4), (RX3, TX3, 1), (RX4, TX4, 6), (RX5, TX5, 7), (RX6, TX6, 8)]
def WC : List Cond := [Cond.code yJx4a65c_size_8abf5 cJx4a65c_size_8abf5 1 (some .int), Cond.fieldLink RJx4a65c 48 "java/util/ArrayList" "size" "I", Cond.code yX6_segments cX6_segments 1 (some .int), Cond.fieldLink RX6 12 "SegmentMap" "lines" "Ljava/util/ArrayList;", Cond.methodLink RX6 75 yJx4a65c_size_8abf5, Cond.instanceMethod yJx4a65c_size_8abf5, Cond.selects RJx4a65c yJx4a65c_size_8abf5 yJx4a65c_size_8abf5, Cond.initialized RJx4a65c, Cond.code yX6_checkSegment cX6_checkSegment 2 none, Cond.code yJ3_checkIndex_8e157 cJ3_checkIndex_8e157 3 (some .int), Cond.code yJ15_checkIndex_7cf53 cJ15_checkIndex_7cf53 2 (some .int), Cond.methodLink RJ15 105 yJ3_checkIndex_8e157, Cond.static yJ3_checkIndex_8e157, Cond.initialized RJ3, Cond.code yJx4a65c_elementData_915e3 cJx4a65c_elementData_915e3 2 (some (.object "java/lang/Object")), Cond.fieldLink RJx4a65c 9 "java/util/ArrayList" "elementData" "[Ljava/lang/Object;", Cond.code yJx4a65c_get_915e3 cJx4a65c_get_915e3 2 (some (.object "java/lang/Object")), Cond.methodLink RJx4a65c 118 yJ15_checkIndex_7cf53, Cond.static yJ15_checkIndex_7cf53, Cond.initialized RJ15, Cond.methodLink RJx4a65c 123 yJx4a65c_elementData_915e3, Cond.instanceMethod yJx4a65c_elementData_915e3, Cond.selects RJx4a65c yJx4a65c_elementData_915e3 yJx4a65c_elementData_915e3, Cond.code yX6_lineAt cX6_lineAt 2 (some (.object "SegmentMap$Segment")), Cond.classLink RX6 16 "SegmentMap$Segment", Cond.fieldLink RX6 21 "SegmentMap" "noLine" "LSegmentMap$Segment;", Cond.methodLink RX6 172 yJx4a65c_get_915e3, Cond.instanceMethod yJx4a65c_get_915e3, Cond.selects RJx4a65c yJx4a65c_get_915e3 yJx4a65c_get_915e3, Cond.code yX4_turn cX4_turn 2 (some .long), Cond.fieldLink RX4 24 "SegmentMap$Segment" "run" "J", Cond.fieldLink RX4 28 "SegmentMap$Segment" "rise" "J", Cond.code yX4_share cX4_share 6 (some .long), Cond.fieldLink RX4 9 "SegmentMap$Segment" "startX" "I", Cond.fieldLink RX4 15 "SegmentMap$Segment" "startY" "I", Cond.code yX4_rank cX4_rank 2 (some .int), Cond.code yX4_commonStretch cX4_commonStretch 4 (some .int), Cond.fieldLink RX4 18 "SegmentMap$Segment" "endX" "I", Cond.fieldLink RX4 21 "SegmentMap$Segment" "endY" "I", Cond.methodLink RX4 56 Lib.Math.min.name, Cond.static Lib.Math.min.name, Cond.initialized "java/lang/Math", Cond.code Lib.Math.min.name Lib.Math.min.code 2 (some .int), Cond.methodLink RX4 61 Lib.Math.max.name, Cond.static Lib.Math.max.name, Cond.code Lib.Math.max.name Lib.Math.max.code 2 (some .int), Cond.methodLink RX4 52 yX4_rank, Cond.static yX4_rank, Cond.initialized RX4, Cond.code yX4_isPart cX4_isPart 4 (some .boolean), Cond.code yX4_touches cX4_touches 4 (some .boolean), Cond.methodLink RX4 31 yX4_turn, Cond.instanceMethod yX4_turn, Cond.selects RX4 yX4_turn yX4_turn, Cond.methodLink RX4 41 yX4_share, Cond.instanceMethod yX4_share, Cond.selects RX4 yX4_share yX4_share, Cond.methodLink RX4 44 yX4_commonStretch, Cond.instanceMethod yX4_commonStretch, Cond.selects RX4 yX4_commonStretch yX4_commonStretch, Cond.methodLink RX4 48 yX4_isPart, Cond.static yX4_isPart, Cond.code yX6_meet cX6_meet 3 (some .boolean), Cond.methodLink RX6 94 yX6_checkSegment, Cond.instanceMethod yX6_checkSegment, Cond.selects RX6 yX6_checkSegment yX6_checkSegment, Cond.initialized RX6, Cond.methodLink RX6 101 yX6_lineAt, Cond.instanceMethod yX6_lineAt, Cond.selects RX6 yX6_lineAt yX6_lineAt, Cond.methodLink RX6 105 yX4_touches, Cond.instanceMethod yX4_touches, Cond.selects RX4 yX4_touches yX4_touches, Cond.code yX6_vertices cX6_vertices 1 (some .int), Cond.fieldLink RX6 28 "SegmentMap" "corners" "LSegmentMap$Vertices;", Cond.code yX6_edges cX6_edges 1 (some .int), Cond.fieldLink RX6 35 "SegmentMap" "pieces" "LSegmentMap$Edges;", Cond.code yX6_faces cX6_faces 1 (some .int), Cond.fieldLink RX6 42 "SegmentMap" "regions" "LSegmentMap$Faces;", Cond.code yX6_components cX6_components 1 (some .int), Cond.fieldLink RX6 114 "SegmentMap" "componentCount" "I", Cond.code yX6_checkVertex cX6_checkVertex 2 none, Cond.code yX5_at cX5_at 2 (some (.object "SegmentMap$Point")), Cond.fieldLink RX5 11 "SegmentMap$Vertices" "points" "[LSegmentMap$Point;", Cond.fieldLink RX5 18 "SegmentMap$Vertices" "noPoint" "LSegmentMap$Point;", Cond.code yX6_xNumerator cX6_xNumerator 2 (some .int), Cond.methodLink RX6 117 yX6_checkVertex, Cond.instanceMethod yX6_checkVertex, Cond.selects RX6 yX6_checkVertex yX6_checkVertex, Cond.methodLink RX6 120 yX5_at, Cond.instanceMethod yX5_at, Cond.selects RX5 yX5_at yX5_at, Cond.initialized RX5, Cond.code yX6_xDenominator cX6_xDenominator 2 (some .int), Cond.code yX6_yNumerator cX6_yNumerator 2 (some .int), Cond.code yX6_yDenominator cX6_yDenominator 2 (some .int), Cond.code yX3_get cX3_get 2 (some .int), Cond.fieldLink RX3 9 "SegmentMap$Row" "cells" "[I", Cond.code yX6_degree cX6_degree 2 (some .int), Cond.methodLink RX6 140 yX3_get, Cond.instanceMethod yX3_get, Cond.selects RX3 yX3_get yX3_get, Cond.initialized RX3, Cond.code yX6_checkEdge cX6_checkEdge 2 none, Cond.code yX6_segmentOf cX6_segmentOf 2 (some .int), Cond.methodLink RX6 144 yX6_checkEdge, Cond.instanceMethod yX6_checkEdge, Cond.selects RX6 yX6_checkEdge yX6_checkEdge, Cond.code yX6_from cX6_from 2 (some .int), Cond.code yX6_to cX6_to 2 (some .int), Cond.code yX6_leftOf cX6_leftOf 2 (some .int), Cond.code yX6_rightOf cX6_rightOf 2 (some .int), Cond.code yX6_checkFace cX6_checkFace 2 none, Cond.code yX6_sides cX6_sides 2 (some .int), Cond.methodLink RX6 159 yX6_checkFace, Cond.instanceMethod yX6_checkFace, Cond.selects RX6 yX6_checkFace yX6_checkFace, Cond.code yX6_firstVertex cX6_firstVertex 2 (some .int), Cond.code yX6_checkCoordinate cX6_checkCoordinate 2 none, Cond.code yX2_commonDivisor cX2_commonDivisor 11 (some .long), Cond.methodLink RX2 43 Lib.MathLoose.abs_long.x, Cond.static Lib.MathLoose.abs_long.x, Cond.code Lib.MathLoose.abs_long.x Lib.MathLoose.abs_long.code 2 (some .long), Cond.code yX2_put cX2_put 13 none, Cond.constantLong RX2 24 (-1), Cond.fieldLink RX2 9 "SegmentMap$Point" "xOver" "J", Cond.fieldLink RX2 15 "SegmentMap$Point" "xUnder" "J", Cond.fieldLink RX2 18 "SegmentMap$Point" "yOver" "J", Cond.fieldLink RX2 21 "SegmentMap$Point" "yUnder" "J", Cond.methodLink RX2 26 yX2_commonDivisor, Cond.static yX2_commonDivisor, Cond.initialized RX2, Cond.code yX4_height cX4_height 2 (some .long), Cond.code yJ13_compare_74951 cJ13_compare_74951 4 (some .int), Cond.code yX4_compareHeight cX4_compareHeight 2 (some .int), Cond.methodLink RX4 76 yX4_height, Cond.instanceMethod yX4_height, Cond.selects RX4 yX4_height yX4_height, Cond.methodLink RX4 35 yJ13_compare_74951, Cond.static yJ13_compare_74951, Cond.initialized RJ13, Cond.code yX4_holds cX4_holds 2 (some .boolean), Cond.methodLink RX4 86 yX4_compareHeight, Cond.instanceMethod yX4_compareHeight, Cond.selects RX4 yX4_compareHeight yX4_compareHeight, Cond.code yX2_compareX cX2_compareX 2 (some .int), Cond.methodLink RX2 30 yJ13_compare_74951, Cond.code yX6_isUnder cX6_isUnder 3 (some .boolean), Cond.methodLink RX6 326 yX2_compareX, Cond.instanceMethod yX2_compareX, Cond.selects RX2 yX2_compareX yX2_compareX, Cond.methodLink RX6 329 yX4_compareHeight, Cond.code yX4_compareHeights cX4_compareHeights 3 (some .int), Cond.code yX4_compareSlopes cX4_compareSlopes 2 (some .int), Cond.code yX6_isHigher cX6_isHigher 7 (some .boolean), Cond.methodLink RX6 199 yX4_compareHeights, Cond.instanceMethod yX4_compareHeights, Cond.selects RX4 yX4_compareHeights yX4_compareHeights, Cond.methodLink RX6 203 yX4_compareSlopes, Cond.instanceMethod yX4_compareSlopes, Cond.selects RX4 yX4_compareSlopes yX4_compareSlopes, Cond.code yX6_faceLeftOf cX6_faceLeftOf 4 (some .int), Cond.methodLink RX6 319 yX6_isUnder, Cond.instanceMethod yX6_isUnder, Cond.selects RX6 yX6_isUnder yX6_isUnder, Cond.methodLink RX6 323 yX6_isHigher, Cond.instanceMethod yX6_isHigher, Cond.selects RX6 yX6_isHigher yX6_isHigher, Cond.code yX6_faceAt cX6_faceAt 4 (some .int), Cond.fieldLink RX6 58 "SegmentMap" "probe" "LSegmentMap$Point;", Cond.methodLink RX6 65 yX6_checkCoordinate, Cond.instanceMethod yX6_checkCoordinate, Cond.selects RX6 yX6_checkCoordinate yX6_checkCoordinate, Cond.methodLink RX6 168 yX2_put, Cond.instanceMethod yX2_put, Cond.selects RX2 yX2_put yX2_put, Cond.methodLink RX6 174 yX4_holds, Cond.instanceMethod yX4_holds, Cond.selects RX4 yX4_holds yX4_holds, Cond.methodLink RX6 178 yX6_faceLeftOf, Cond.instanceMethod yX6_faceLeftOf, Cond.selects RX6 yX6_faceLeftOf yX6_faceLeftOf, Cond.code yX4_spans cX4_spans 2 (some .boolean), Cond.code yX6_crossing cX6_crossing 4 (some .int), Cond.methodLink RX6 182 yX4_spans, Cond.instanceMethod yX4_spans, Cond.selects RX4 yX4_spans yX4_spans, Cond.code yX6_isBefore cX6_isBefore 8 (some .boolean), Cond.code yX6_placeAt cX6_placeAt 5 (some .int), Cond.methodLink RX6 195 yX6_isBefore, Cond.instanceMethod yX6_isBefore, Cond.selects RX6 yX6_isBefore yX6_isBefore, Cond.code yX4_overlaps cX4_overlaps 2 (some .boolean), Cond.code yX6_overlapsAnyLine cX6_overlapsAnyLine 3 (some .boolean), Cond.methodLink RX6 217 yX4_overlaps, Cond.instanceMethod yX4_overlaps, Cond.selects RX4 yX4_overlaps yX4_overlaps, Cond.code yX5_clear cX5_clear 1 none, Cond.fieldLink RX5 40 "SegmentMap$Vertices" "count" "I", Cond.code yX2_compareY cX2_compareY 2 (some .int), Cond.code yX2_compareOrder cX2_compareOrder 3 (some .int), Cond.methodLink RX2 36 yX2_compareX, Cond.methodLink RX2 40 yX2_compareY, Cond.instanceMethod yX2_compareY, Cond.selects RX2 yX2_compareY yX2_compareY, Cond.code yX2_copy cX2_copy 2 none, Cond.code yX5_insert cX5_insert 5 none, Cond.methodLink RX5 56 yX2_copy, Cond.instanceMethod yX2_copy, Cond.selects RX2 yX2_copy yX2_copy, Cond.code yX5_include cX5_include 4 none, Cond.methodLink RX5 44 yX5_at, Cond.methodLink RX5 48 yX2_compareOrder, Cond.instanceMethod yX2_compareOrder, Cond.selects RX2 yX2_compareOrder yX2_compareOrder, Cond.methodLink RX5 52 yX5_insert, Cond.instanceMethod yX5_insert, Cond.selects RX5 yX5_insert yX5_insert, Cond.code yX4_isParallel cX4_isParallel 2 (some .boolean), Cond.code yX4_putMeeting cX4_putMeeting 7 none, Cond.methodLink RX4 64 yX2_put, Cond.code yX6_includeMeeting cX6_includeMeeting 3 none, Cond.methodLink RX6 261 yX4_isParallel, Cond.instanceMethod yX4_isParallel, Cond.selects RX4 yX4_isParallel yX4_isParallel, Cond.methodLink RX6 264 yX4_putMeeting, Cond.instanceMethod yX4_putMeeting, Cond.selects RX4 yX4_putMeeting yX4_putMeeting, Cond.methodLink RX6 247 yX5_include, Cond.instanceMethod yX5_include, Cond.selects RX5 yX5_include yX5_include, Cond.code yX6_gatherVertices cX6_gatherVertices 4 none, Cond.methodLink RX6 238 yX5_clear, Cond.instanceMethod yX5_clear, Cond.selects RX5 yX5_clear yX5_clear, Cond.methodLink RX6 257 yX6_includeMeeting, Cond.instanceMethod yX6_includeMeeting, Cond.selects RX6 yX6_includeMeeting yX6_includeMeeting, Cond.code yX0_clear cX0_clear 1 none, Cond.fieldLink RX0 32 "SegmentMap$Edges" "count" "I", Cond.code yX3_set cX3_set 3 none, Cond.code yX0_append cX0_append 4 none, Cond.fieldLink RX0 14 "SegmentMap$Edges" "line" "LSegmentMap$Row;", Cond.fieldLink RX0 20 "SegmentMap$Edges" "start" "LSegmentMap$Row;", Cond.fieldLink RX0 23 "SegmentMap$Edges" "end" "LSegmentMap$Row;", Cond.fieldLink RX0 29 "SegmentMap$Edges" "face" "LSegmentMap$Row;", Cond.methodLink RX0 36 yX3_set, Cond.instanceMethod yX3_set, Cond.selects RX3 yX3_set yX3_set, Cond.code yX6_gatherEdges cX6_gatherEdges 4 none, Cond.methodLink RX6 268 yX0_clear, Cond.instanceMethod yX0_clear, Cond.selects RX0 yX0_clear yX0_clear, Cond.initialized RX0, Cond.methodLink RX6 269 yX0_append, Cond.instanceMethod yX0_append, Cond.selects RX0 yX0_append yX0_append, Cond.code yX6_sortBySlope cX6_sortBySlope 3 none, Cond.fieldLink RX6 51 "SegmentMap" "bySlope" "LSegmentMap$Row;", Cond.methodLink RX6 273 yX3_set, Cond.code yX5_resetSides cX5_resetSides 2 none, Cond.fieldLink RX5 27 "SegmentMap$Vertices" "outgoing" "LSegmentMap$Row;", Cond.fieldLink RX5 31 "SegmentMap$Vertices" "lowest" "LSegmentMap$Row;", Cond.fieldLink RX5 34 "SegmentMap$Vertices" "top" "LSegmentMap$Row;", Cond.fieldLink RX5 37 "SegmentMap$Vertices" "root" "LSegmentMap$Row;", Cond.methodLink RX5 60 yX3_set, Cond.code yX6_spreadSide cX6_spreadSide 3 none, Cond.code yX6_spreadLine cX6_spreadLine 5 none, Cond.methodLink RX6 284 yX6_spreadSide, Cond.instanceMethod yX6_spreadSide, Cond.selects RX6 yX6_spreadSide yX6_spreadSide, Cond.code yX6_spreadEdges cX6_spreadEdges 2 none, Cond.methodLink RX6 277 yX5_resetSides, Cond.instanceMethod yX5_resetSides, Cond.selects RX5 yX5_resetSides yX5_resetSides, Cond.methodLink RX6 280 yX6_spreadLine, Cond.instanceMethod yX6_spreadLine, Cond.selects RX6 yX6_spreadLine yX6_spreadLine, Cond.code yX5_join cX5_join 4 none, Cond.methodLink RX5 64 yX3_get, Cond.code yX6_joinComponents cX6_joinComponents 4 none, Cond.methodLink RX6 299 Lib.Math.min.name, Cond.methodLink RX6 304 Lib.Math.max.name, Cond.methodLink RX6 307 yX5_join, Cond.instanceMethod yX5_join, Cond.selects RX5 yX5_join yX5_join, Cond.code yX1_append cX1_append 2 (some .int), Cond.fieldLink RX1 14 "SegmentMap$Faces" "first" "LSegmentMap$Row;", Cond.fieldLink RX1 23 "SegmentMap$Faces" "count" "I", Cond.fieldLink RX1 20 "SegmentMap$Faces" "sideCount" "LSegmentMap$Row;", Cond.methodLink RX1 31 yX3_set, Cond.code yX1_clear cX1_clear 1 none, Cond.methodLink RX1 27 yX1_append, Cond.instanceMethod yX1_append, Cond.selects RX1 yX1_append yX1_append, Cond.initialized RX1, Cond.code yX1_countSide cX1_countSide 2 none, Cond.methodLink RX1 35 yX3_get, Cond.code yX6_paintBorder cX6_paintBorder 5 none, Cond.methodLink RX6 316 yX1_countSide, Cond.instanceMethod yX1_countSide, Cond.selects RX1 yX1_countSide yX1_countSide, Cond.code yX6_gatherFaces cX6_gatherFaces 4 none, Cond.methodLink RX6 310 yX1_clear, Cond.instanceMethod yX1_clear, Cond.selects RX1 yX1_clear yX1_clear, Cond.methodLink RX6 311 yX6_paintBorder, Cond.instanceMethod yX6_paintBorder, Cond.selects RX6 yX6_paintBorder yX6_paintBorder, Cond.methodLink RX6 314 yX1_append, Cond.code yX6_rebuild cX6_rebuild 1 none, Cond.methodLink RX6 220 yX6_gatherVertices, Cond.instanceMethod yX6_gatherVertices, Cond.selects RX6 yX6_gatherVertices yX6_gatherVertices, Cond.methodLink RX6 223 yX6_gatherEdges, Cond.instanceMethod yX6_gatherEdges, Cond.selects RX6 yX6_gatherEdges yX6_gatherEdges, Cond.methodLink RX6 226 yX6_sortBySlope, Cond.instanceMethod yX6_sortBySlope, Cond.selects RX6 yX6_sortBySlope yX6_sortBySlope, Cond.methodLink RX6 229 yX6_spreadEdges, Cond.instanceMethod yX6_spreadEdges, Cond.selects RX6 yX6_spreadEdges yX6_spreadEdges, Cond.methodLink RX6 232 yX6_joinComponents, Cond.instanceMethod yX6_joinComponents, Cond.selects RX6 yX6_joinComponents yX6_joinComponents, Cond.methodLink RX6 235 yX6_gatherFaces, Cond.instanceMethod yX6_gatherFaces, Cond.selects RX6 yX6_gatherFaces yX6_gatherFaces] ++ (wsX00 ++ wsX10 ++ wsX20 ++ wsX30 ++ wsX40 ++ wsX50 ++ wsX60 ++ wsJx4a65c0)
set_option maxRecDepth 100000 in
theorem WC_all : WC.all goodWord = true := by decide +kernel
theorem WC_good : ∀ w ∈ WC, (w.onTables && w.keeps) = true ∨ ∃ ty, w = .arrayClass ty := fun w h => good_of_word (List.all_eq_true.mp WC_all w h)
theorem gWC {k0 : Cond} {own C : String} {idx n : Nat} {y : MethodName} {b : ByteArray} {ret : Option FieldType} (h1 : Cond.methodLink own idx y ∈ WC) (h2 : Cond.instanceMethod y ∈ WC) (h3 : Cond.selects C y y ∈ WC) (h4 : Cond.initialized C ∈ WC) (h5 : Cond.code y b n ret ∈ WC) : GoodIn (k0 :: WC) (wsV own idx C y (Cond.code y b n ret :: WC)) := by
  intro w hw
  have h : w ∈ WC := by
    unfold wsV at hw
    rcases List.mem_append.mp hw with h | h
    · simp only [List.mem_cons, List.not_mem_nil, or_false] at h
      rcases h with rfl | rfl | rfl | rfl <;> assumption
    · rcases List.mem_cons.mp h with rfl | h
      · exact h5
      · exact h
  exact ⟨List.mem_cons_of_mem _ h, WC_good w h⟩
theorem gWCS {k0 : Cond} {own : String} {idx n : Nat} {y : MethodName} {b : ByteArray} {ret : Option FieldType} (h1 : Cond.methodLink own idx y ∈ WC) (h2 : Cond.static y ∈ WC) (h4 : Cond.initialized y.cls ∈ WC) (h5 : Cond.code y b n ret ∈ WC) : GoodIn (k0 :: WC) (va_wsS own idx y (Cond.code y b n ret :: WC)) := by
  intro w hw
  have h : w ∈ WC := by
    unfold va_wsS at hw
    rcases List.mem_append.mp hw with h | h
    · simp only [List.mem_cons, List.not_mem_nil, or_false] at h
      rcases h with rfl | rfl | rfl <;> assumption
    · rcases List.mem_cons.mp h with rfl | h
      · exact h5
      · exact h
  exact ⟨List.mem_cons_of_mem _ h, WC_good w h⟩
theorem wc_0 : Cond.code yJx4a65c_size_8abf5 cJx4a65c_size_8abf5 1 (some .int) ∈ WC := List.mem_of_getElem? (i := 0) rfl
theorem wc_1 : Cond.fieldLink RJx4a65c 48 "java/util/ArrayList" "size" "I" ∈ WC := List.mem_of_getElem? (i := 1) rfl
theorem wc_2 : Cond.code yX6_segments cX6_segments 1 (some .int) ∈ WC := List.mem_of_getElem? (i := 2) rfl
theorem wc_3 : Cond.fieldLink RX6 12 "SegmentMap" "lines" "Ljava/util/ArrayList;" ∈ WC := List.mem_of_getElem? (i := 3) rfl
theorem wc_4 : Cond.methodLink RX6 75 yJx4a65c_size_8abf5 ∈ WC := List.mem_of_getElem? (i := 4) rfl
theorem wc_5 : Cond.instanceMethod yJx4a65c_size_8abf5 ∈ WC := List.mem_of_getElem? (i := 5) rfl
theorem wc_6 : Cond.selects RJx4a65c yJx4a65c_size_8abf5 yJx4a65c_size_8abf5 ∈ WC := List.mem_of_getElem? (i := 6) rfl
theorem wc_7 : Cond.initialized RJx4a65c ∈ WC := List.mem_of_getElem? (i := 7) rfl
theorem wc_8 : Cond.code yX6_checkSegment cX6_checkSegment 2 none ∈ WC := List.mem_of_getElem? (i := 8) rfl
theorem wc_9 : Cond.code yJ3_checkIndex_8e157 cJ3_checkIndex_8e157 3 (some .int) ∈ WC := List.mem_of_getElem? (i := 9) rfl
theorem wc_10 : Cond.code yJ15_checkIndex_7cf53 cJ15_checkIndex_7cf53 2 (some .int) ∈ WC := List.mem_of_getElem? (i := 10) rfl
theorem wc_11 : Cond.methodLink RJ15 105 yJ3_checkIndex_8e157 ∈ WC := List.mem_of_getElem? (i := 11) rfl
theorem wc_12 : Cond.static yJ3_checkIndex_8e157 ∈ WC := List.mem_of_getElem? (i := 12) rfl
theorem wc_13 : Cond.initialized RJ3 ∈ WC := List.mem_of_getElem? (i := 13) rfl
theorem wc_14 : Cond.code yJx4a65c_elementData_915e3 cJx4a65c_elementData_915e3 2 (some (.object "java/lang/Object")) ∈ WC := List.mem_of_getElem? (i := 14) rfl
theorem wc_15 : Cond.fieldLink RJx4a65c 9 "java/util/ArrayList" "elementData" "[Ljava/lang/Object;" ∈ WC := List.mem_of_getElem? (i := 15) rfl
theorem wc_16 : Cond.code yJx4a65c_get_915e3 cJx4a65c_get_915e3 2 (some (.object "java/lang/Object")) ∈ WC := List.mem_of_getElem? (i := 16) rfl
theorem wc_17 : Cond.methodLink RJx4a65c 118 yJ15_checkIndex_7cf53 ∈ WC := List.mem_of_getElem? (i := 17) rfl
theorem wc_18 : Cond.static yJ15_checkIndex_7cf53 ∈ WC := List.mem_of_getElem? (i := 18) rfl
theorem wc_19 : Cond.initialized RJ15 ∈ WC := List.mem_of_getElem? (i := 19) rfl
theorem wc_20 : Cond.methodLink RJx4a65c 123 yJx4a65c_elementData_915e3 ∈ WC := List.mem_of_getElem? (i := 20) rfl
theorem wc_21 : Cond.instanceMethod yJx4a65c_elementData_915e3 ∈ WC := List.mem_of_getElem? (i := 21) rfl
theorem wc_22 : Cond.selects RJx4a65c yJx4a65c_elementData_915e3 yJx4a65c_elementData_915e3 ∈ WC := List.mem_of_getElem? (i := 22) rfl
theorem wc_23 : Cond.code yX6_lineAt cX6_lineAt 2 (some (.object "SegmentMap$Segment")) ∈ WC := List.mem_of_getElem? (i := 23) rfl
theorem wc_24 : Cond.classLink RX6 16 "SegmentMap$Segment" ∈ WC := List.mem_of_getElem? (i := 24) rfl
theorem wc_25 : Cond.fieldLink RX6 21 "SegmentMap" "noLine" "LSegmentMap$Segment;" ∈ WC := List.mem_of_getElem? (i := 25) rfl
theorem wc_26 : Cond.methodLink RX6 172 yJx4a65c_get_915e3 ∈ WC := List.mem_of_getElem? (i := 26) rfl
theorem wc_27 : Cond.instanceMethod yJx4a65c_get_915e3 ∈ WC := List.mem_of_getElem? (i := 27) rfl
theorem wc_28 : Cond.selects RJx4a65c yJx4a65c_get_915e3 yJx4a65c_get_915e3 ∈ WC := List.mem_of_getElem? (i := 28) rfl
theorem wc_29 : Cond.code yX4_turn cX4_turn 2 (some .long) ∈ WC := List.mem_of_getElem? (i := 29) rfl
theorem wc_30 : Cond.fieldLink RX4 24 "SegmentMap$Segment" "run" "J" ∈ WC := List.mem_of_getElem? (i := 30) rfl
theorem wc_31 : Cond.fieldLink RX4 28 "SegmentMap$Segment" "rise" "J" ∈ WC := List.mem_of_getElem? (i := 31) rfl
theorem wc_32 : Cond.code yX4_share cX4_share 6 (some .long) ∈ WC := List.mem_of_getElem? (i := 32) rfl
theorem wc_33 : Cond.fieldLink RX4 9 "SegmentMap$Segment" "startX" "I" ∈ WC := List.mem_of_getElem? (i := 33) rfl
theorem wc_34 : Cond.fieldLink RX4 15 "SegmentMap$Segment" "startY" "I" ∈ WC := List.mem_of_getElem? (i := 34) rfl
theorem wc_35 : Cond.code yX4_rank cX4_rank 2 (some .int) ∈ WC := List.mem_of_getElem? (i := 35) rfl
theorem wc_36 : Cond.code yX4_commonStretch cX4_commonStretch 4 (some .int) ∈ WC := List.mem_of_getElem? (i := 36) rfl
theorem wc_37 : Cond.fieldLink RX4 18 "SegmentMap$Segment" "endX" "I" ∈ WC := List.mem_of_getElem? (i := 37) rfl
theorem wc_38 : Cond.fieldLink RX4 21 "SegmentMap$Segment" "endY" "I" ∈ WC := List.mem_of_getElem? (i := 38) rfl
theorem wc_39 : Cond.methodLink RX4 56 Lib.Math.min.name ∈ WC := List.mem_of_getElem? (i := 39) rfl
theorem wc_40 : Cond.static Lib.Math.min.name ∈ WC := List.mem_of_getElem? (i := 40) rfl
theorem wc_41 : Cond.initialized "java/lang/Math" ∈ WC := List.mem_of_getElem? (i := 41) rfl
theorem wc_42 : Cond.code Lib.Math.min.name Lib.Math.min.code 2 (some .int) ∈ WC := List.mem_of_getElem? (i := 42) rfl
theorem wc_43 : Cond.methodLink RX4 61 Lib.Math.max.name ∈ WC := List.mem_of_getElem? (i := 43) rfl
theorem wc_44 : Cond.static Lib.Math.max.name ∈ WC := List.mem_of_getElem? (i := 44) rfl
theorem wc_45 : Cond.code Lib.Math.max.name Lib.Math.max.code 2 (some .int) ∈ WC := List.mem_of_getElem? (i := 45) rfl
theorem wc_46 : Cond.methodLink RX4 52 yX4_rank ∈ WC := List.mem_of_getElem? (i := 46) rfl
theorem wc_47 : Cond.static yX4_rank ∈ WC := List.mem_of_getElem? (i := 47) rfl
theorem wc_48 : Cond.initialized RX4 ∈ WC := List.mem_of_getElem? (i := 48) rfl
theorem wc_49 : Cond.code yX4_isPart cX4_isPart 4 (some .boolean) ∈ WC := List.mem_of_getElem? (i := 49) rfl
theorem wc_50 : Cond.code yX4_touches cX4_touches 4 (some .boolean) ∈ WC := List.mem_of_getElem? (i := 50) rfl
theorem wc_51 : Cond.methodLink RX4 31 yX4_turn ∈ WC := List.mem_of_getElem? (i := 51) rfl
theorem wc_52 : Cond.instanceMethod yX4_turn ∈ WC := List.mem_of_getElem? (i := 52) rfl
theorem wc_53 : Cond.selects RX4 yX4_turn yX4_turn ∈ WC := List.mem_of_getElem? (i := 53) rfl
theorem wc_54 : Cond.methodLink RX4 41 yX4_share ∈ WC := List.mem_of_getElem? (i := 54) rfl
theorem wc_55 : Cond.instanceMethod yX4_share ∈ WC := List.mem_of_getElem? (i := 55) rfl
theorem wc_56 : Cond.selects RX4 yX4_share yX4_share ∈ WC := List.mem_of_getElem? (i := 56) rfl
theorem wc_57 : Cond.methodLink RX4 44 yX4_commonStretch ∈ WC := List.mem_of_getElem? (i := 57) rfl
theorem wc_58 : Cond.instanceMethod yX4_commonStretch ∈ WC := List.mem_of_getElem? (i := 58) rfl
theorem wc_59 : Cond.selects RX4 yX4_commonStretch yX4_commonStretch ∈ WC := List.mem_of_getElem? (i := 59) rfl
theorem wc_60 : Cond.methodLink RX4 48 yX4_isPart ∈ WC := List.mem_of_getElem? (i := 60) rfl
theorem wc_61 : Cond.static yX4_isPart ∈ WC := List.mem_of_getElem? (i := 61) rfl
theorem wc_62 : Cond.code yX6_meet cX6_meet 3 (some .boolean) ∈ WC := List.mem_of_getElem? (i := 62) rfl
theorem wc_63 : Cond.methodLink RX6 94 yX6_checkSegment ∈ WC := List.mem_of_getElem? (i := 63) rfl
theorem wc_64 : Cond.instanceMethod yX6_checkSegment ∈ WC := List.mem_of_getElem? (i := 64) rfl
theorem wc_65 : Cond.selects RX6 yX6_checkSegment yX6_checkSegment ∈ WC := List.mem_of_getElem? (i := 65) rfl
theorem wc_66 : Cond.initialized RX6 ∈ WC := List.mem_of_getElem? (i := 66) rfl
theorem wc_67 : Cond.methodLink RX6 101 yX6_lineAt ∈ WC := List.mem_of_getElem? (i := 67) rfl
theorem wc_68 : Cond.instanceMethod yX6_lineAt ∈ WC := List.mem_of_getElem? (i := 68) rfl
theorem wc_69 : Cond.selects RX6 yX6_lineAt yX6_lineAt ∈ WC := List.mem_of_getElem? (i := 69) rfl
theorem wc_70 : Cond.methodLink RX6 105 yX4_touches ∈ WC := List.mem_of_getElem? (i := 70) rfl
theorem wc_71 : Cond.instanceMethod yX4_touches ∈ WC := List.mem_of_getElem? (i := 71) rfl
theorem wc_72 : Cond.selects RX4 yX4_touches yX4_touches ∈ WC := List.mem_of_getElem? (i := 72) rfl
theorem wc_73 : Cond.code yX6_vertices cX6_vertices 1 (some .int) ∈ WC := List.mem_of_getElem? (i := 73) rfl
theorem wc_74 : Cond.fieldLink RX6 28 "SegmentMap" "corners" "LSegmentMap$Vertices;" ∈ WC := List.mem_of_getElem? (i := 74) rfl
theorem wc_75 : Cond.code yX6_edges cX6_edges 1 (some .int) ∈ WC := List.mem_of_getElem? (i := 75) rfl
theorem wc_76 : Cond.fieldLink RX6 35 "SegmentMap" "pieces" "LSegmentMap$Edges;" ∈ WC := List.mem_of_getElem? (i := 76) rfl
theorem wc_77 : Cond.code yX6_faces cX6_faces 1 (some .int) ∈ WC := List.mem_of_getElem? (i := 77) rfl
theorem wc_78 : Cond.fieldLink RX6 42 "SegmentMap" "regions" "LSegmentMap$Faces;" ∈ WC := List.mem_of_getElem? (i := 78) rfl
theorem wc_79 : Cond.code yX6_components cX6_components 1 (some .int) ∈ WC := List.mem_of_getElem? (i := 79) rfl
theorem wc_80 : Cond.fieldLink RX6 114 "SegmentMap" "componentCount" "I" ∈ WC := List.mem_of_getElem? (i := 80) rfl
theorem wc_81 : Cond.code yX6_checkVertex cX6_checkVertex 2 none ∈ WC := List.mem_of_getElem? (i := 81) rfl
theorem wc_82 : Cond.code yX5_at cX5_at 2 (some (.object "SegmentMap$Point")) ∈ WC := List.mem_of_getElem? (i := 82) rfl
theorem wc_83 : Cond.fieldLink RX5 11 "SegmentMap$Vertices" "points" "[LSegmentMap$Point;" ∈ WC := List.mem_of_getElem? (i := 83) rfl
theorem wc_84 : Cond.fieldLink RX5 18 "SegmentMap$Vertices" "noPoint" "LSegmentMap$Point;" ∈ WC := List.mem_of_getElem? (i := 84) rfl
theorem wc_85 : Cond.code yX6_xNumerator cX6_xNumerator 2 (some .int) ∈ WC := List.mem_of_getElem? (i := 85) rfl
theorem wc_86 : Cond.methodLink RX6 117 yX6_checkVertex ∈ WC := List.mem_of_getElem? (i := 86) rfl
theorem wc_87 : Cond.instanceMethod yX6_checkVertex ∈ WC := List.mem_of_getElem? (i := 87) rfl
theorem wc_88 : Cond.selects RX6 yX6_checkVertex yX6_checkVertex ∈ WC := List.mem_of_getElem? (i := 88) rfl
theorem wc_89 : Cond.methodLink RX6 120 yX5_at ∈ WC := List.mem_of_getElem? (i := 89) rfl
theorem wc_90 : Cond.instanceMethod yX5_at ∈ WC := List.mem_of_getElem? (i := 90) rfl
theorem wc_91 : Cond.selects RX5 yX5_at yX5_at ∈ WC := List.mem_of_getElem? (i := 91) rfl
theorem wc_92 : Cond.initialized RX5 ∈ WC := List.mem_of_getElem? (i := 92) rfl
theorem wc_93 : Cond.code yX6_xDenominator cX6_xDenominator 2 (some .int) ∈ WC := List.mem_of_getElem? (i := 93) rfl
theorem wc_94 : Cond.code yX6_yNumerator cX6_yNumerator 2 (some .int) ∈ WC := List.mem_of_getElem? (i := 94) rfl
theorem wc_95 : Cond.code yX6_yDenominator cX6_yDenominator 2 (some .int) ∈ WC := List.mem_of_getElem? (i := 95) rfl
theorem wc_96 : Cond.code yX3_get cX3_get 2 (some .int) ∈ WC := List.mem_of_getElem? (i := 96) rfl
theorem wc_97 : Cond.fieldLink RX3 9 "SegmentMap$Row" "cells" "[I" ∈ WC := List.mem_of_getElem? (i := 97) rfl
theorem wc_98 : Cond.code yX6_degree cX6_degree 2 (some .int) ∈ WC := List.mem_of_getElem? (i := 98) rfl
theorem wc_99 : Cond.methodLink RX6 140 yX3_get ∈ WC := List.mem_of_getElem? (i := 99) rfl
theorem wc_100 : Cond.instanceMethod yX3_get ∈ WC := List.mem_of_getElem? (i := 100) rfl
theorem wc_101 : Cond.selects RX3 yX3_get yX3_get ∈ WC := List.mem_of_getElem? (i := 101) rfl
theorem wc_102 : Cond.initialized RX3 ∈ WC := List.mem_of_getElem? (i := 102) rfl
theorem wc_103 : Cond.code yX6_checkEdge cX6_checkEdge 2 none ∈ WC := List.mem_of_getElem? (i := 103) rfl
theorem wc_104 : Cond.code yX6_segmentOf cX6_segmentOf 2 (some .int) ∈ WC := List.mem_of_getElem? (i := 104) rfl
theorem wc_105 : Cond.methodLink RX6 144 yX6_checkEdge ∈ WC := List.mem_of_getElem? (i := 105) rfl
theorem wc_106 : Cond.instanceMethod yX6_checkEdge ∈ WC := List.mem_of_getElem? (i := 106) rfl
theorem wc_107 : Cond.selects RX6 yX6_checkEdge yX6_checkEdge ∈ WC := List.mem_of_getElem? (i := 107) rfl
theorem wc_108 : Cond.code yX6_from cX6_from 2 (some .int) ∈ WC := List.mem_of_getElem? (i := 108) rfl
theorem wc_109 : Cond.code yX6_to cX6_to 2 (some .int) ∈ WC := List.mem_of_getElem? (i := 109) rfl
theorem wc_110 : Cond.code yX6_leftOf cX6_leftOf 2 (some .int) ∈ WC := List.mem_of_getElem? (i := 110) rfl
theorem wc_111 : Cond.code yX6_rightOf cX6_rightOf 2 (some .int) ∈ WC := List.mem_of_getElem? (i := 111) rfl
theorem wc_112 : Cond.code yX6_checkFace cX6_checkFace 2 none ∈ WC := List.mem_of_getElem? (i := 112) rfl
theorem wc_113 : Cond.code yX6_sides cX6_sides 2 (some .int) ∈ WC := List.mem_of_getElem? (i := 113) rfl
theorem wc_114 : Cond.methodLink RX6 159 yX6_checkFace ∈ WC := List.mem_of_getElem? (i := 114) rfl
theorem wc_115 : Cond.instanceMethod yX6_checkFace ∈ WC := List.mem_of_getElem? (i := 115) rfl
theorem wc_116 : Cond.selects RX6 yX6_checkFace yX6_checkFace ∈ WC := List.mem_of_getElem? (i := 116) rfl
theorem wc_117 : Cond.code yX6_firstVertex cX6_firstVertex 2 (some .int) ∈ WC := List.mem_of_getElem? (i := 117) rfl
theorem wc_118 : Cond.code yX6_checkCoordinate cX6_checkCoordinate 2 none ∈ WC := List.mem_of_getElem? (i := 118) rfl
theorem wc_119 : Cond.code yX2_commonDivisor cX2_commonDivisor 11 (some .long) ∈ WC := List.mem_of_getElem? (i := 119) rfl
theorem wc_120 : Cond.methodLink RX2 43 Lib.MathLoose.abs_long.x ∈ WC := List.mem_of_getElem? (i := 120) rfl
theorem wc_121 : Cond.static Lib.MathLoose.abs_long.x ∈ WC := List.mem_of_getElem? (i := 121) rfl
theorem wc_122 : Cond.code Lib.MathLoose.abs_long.x Lib.MathLoose.abs_long.code 2 (some .long) ∈ WC := List.mem_of_getElem? (i := 122) rfl
theorem wc_123 : Cond.code yX2_put cX2_put 13 none ∈ WC := List.mem_of_getElem? (i := 123) rfl
theorem wc_124 : Cond.constantLong RX2 24 (-1) ∈ WC := List.mem_of_getElem? (i := 124) rfl
theorem wc_125 : Cond.fieldLink RX2 9 "SegmentMap$Point" "xOver" "J" ∈ WC := List.mem_of_getElem? (i := 125) rfl
theorem wc_126 : Cond.fieldLink RX2 15 "SegmentMap$Point" "xUnder" "J" ∈ WC := List.mem_of_getElem? (i := 126) rfl
theorem wc_127 : Cond.fieldLink RX2 18 "SegmentMap$Point" "yOver" "J" ∈ WC := List.mem_of_getElem? (i := 127) rfl
theorem wc_128 : Cond.fieldLink RX2 21 "SegmentMap$Point" "yUnder" "J" ∈ WC := List.mem_of_getElem? (i := 128) rfl
theorem wc_129 : Cond.methodLink RX2 26 yX2_commonDivisor ∈ WC := List.mem_of_getElem? (i := 129) rfl
theorem wc_130 : Cond.static yX2_commonDivisor ∈ WC := List.mem_of_getElem? (i := 130) rfl
theorem wc_131 : Cond.initialized RX2 ∈ WC := List.mem_of_getElem? (i := 131) rfl
theorem wc_132 : Cond.code yX4_height cX4_height 2 (some .long) ∈ WC := List.mem_of_getElem? (i := 132) rfl
theorem wc_133 : Cond.code yJ13_compare_74951 cJ13_compare_74951 4 (some .int) ∈ WC := List.mem_of_getElem? (i := 133) rfl
theorem wc_134 : Cond.code yX4_compareHeight cX4_compareHeight 2 (some .int) ∈ WC := List.mem_of_getElem? (i := 134) rfl
theorem wc_135 : Cond.methodLink RX4 76 yX4_height ∈ WC := List.mem_of_getElem? (i := 135) rfl
theorem wc_136 : Cond.instanceMethod yX4_height ∈ WC := List.mem_of_getElem? (i := 136) rfl
theorem wc_137 : Cond.selects RX4 yX4_height yX4_height ∈ WC := List.mem_of_getElem? (i := 137) rfl
theorem wc_138 : Cond.methodLink RX4 35 yJ13_compare_74951 ∈ WC := List.mem_of_getElem? (i := 138) rfl
theorem wc_139 : Cond.static yJ13_compare_74951 ∈ WC := List.mem_of_getElem? (i := 139) rfl
theorem wc_140 : Cond.initialized RJ13 ∈ WC := List.mem_of_getElem? (i := 140) rfl
theorem wc_141 : Cond.code yX4_holds cX4_holds 2 (some .boolean) ∈ WC := List.mem_of_getElem? (i := 141) rfl
theorem wc_142 : Cond.methodLink RX4 86 yX4_compareHeight ∈ WC := List.mem_of_getElem? (i := 142) rfl
theorem wc_143 : Cond.instanceMethod yX4_compareHeight ∈ WC := List.mem_of_getElem? (i := 143) rfl
theorem wc_144 : Cond.selects RX4 yX4_compareHeight yX4_compareHeight ∈ WC := List.mem_of_getElem? (i := 144) rfl
theorem wc_145 : Cond.code yX2_compareX cX2_compareX 2 (some .int) ∈ WC := List.mem_of_getElem? (i := 145) rfl
theorem wc_146 : Cond.methodLink RX2 30 yJ13_compare_74951 ∈ WC := List.mem_of_getElem? (i := 146) rfl
theorem wc_147 : Cond.code yX6_isUnder cX6_isUnder 3 (some .boolean) ∈ WC := List.mem_of_getElem? (i := 147) rfl
theorem wc_148 : Cond.methodLink RX6 326 yX2_compareX ∈ WC := List.mem_of_getElem? (i := 148) rfl
theorem wc_149 : Cond.instanceMethod yX2_compareX ∈ WC := List.mem_of_getElem? (i := 149) rfl
theorem wc_150 : Cond.selects RX2 yX2_compareX yX2_compareX ∈ WC := List.mem_of_getElem? (i := 150) rfl
theorem wc_151 : Cond.methodLink RX6 329 yX4_compareHeight ∈ WC := List.mem_of_getElem? (i := 151) rfl
theorem wc_152 : Cond.code yX4_compareHeights cX4_compareHeights 3 (some .int) ∈ WC := List.mem_of_getElem? (i := 152) rfl
theorem wc_153 : Cond.code yX4_compareSlopes cX4_compareSlopes 2 (some .int) ∈ WC := List.mem_of_getElem? (i := 153) rfl
theorem wc_154 : Cond.code yX6_isHigher cX6_isHigher 7 (some .boolean) ∈ WC := List.mem_of_getElem? (i := 154) rfl
theorem wc_155 : Cond.methodLink RX6 199 yX4_compareHeights ∈ WC := List.mem_of_getElem? (i := 155) rfl
theorem wc_156 : Cond.instanceMethod yX4_compareHeights ∈ WC := List.mem_of_getElem? (i := 156) rfl
theorem wc_157 : Cond.selects RX4 yX4_compareHeights yX4_compareHeights ∈ WC := List.mem_of_getElem? (i := 157) rfl
theorem wc_158 : Cond.methodLink RX6 203 yX4_compareSlopes ∈ WC := List.mem_of_getElem? (i := 158) rfl
theorem wc_159 : Cond.instanceMethod yX4_compareSlopes ∈ WC := List.mem_of_getElem? (i := 159) rfl
theorem wc_160 : Cond.selects RX4 yX4_compareSlopes yX4_compareSlopes ∈ WC := List.mem_of_getElem? (i := 160) rfl
theorem wc_161 : Cond.code yX6_faceLeftOf cX6_faceLeftOf 4 (some .int) ∈ WC := List.mem_of_getElem? (i := 161) rfl
theorem wc_162 : Cond.methodLink RX6 319 yX6_isUnder ∈ WC := List.mem_of_getElem? (i := 162) rfl
theorem wc_163 : Cond.instanceMethod yX6_isUnder ∈ WC := List.mem_of_getElem? (i := 163) rfl
theorem wc_164 : Cond.selects RX6 yX6_isUnder yX6_isUnder ∈ WC := List.mem_of_getElem? (i := 164) rfl
theorem wc_165 : Cond.methodLink RX6 323 yX6_isHigher ∈ WC := List.mem_of_getElem? (i := 165) rfl
theorem wc_166 : Cond.instanceMethod yX6_isHigher ∈ WC := List.mem_of_getElem? (i := 166) rfl
theorem wc_167 : Cond.selects RX6 yX6_isHigher yX6_isHigher ∈ WC := List.mem_of_getElem? (i := 167) rfl
theorem wc_168 : Cond.code yX6_faceAt cX6_faceAt 4 (some .int) ∈ WC := List.mem_of_getElem? (i := 168) rfl
theorem wc_169 : Cond.fieldLink RX6 58 "SegmentMap" "probe" "LSegmentMap$Point;" ∈ WC := List.mem_of_getElem? (i := 169) rfl
theorem wc_170 : Cond.methodLink RX6 65 yX6_checkCoordinate ∈ WC := List.mem_of_getElem? (i := 170) rfl
theorem wc_171 : Cond.instanceMethod yX6_checkCoordinate ∈ WC := List.mem_of_getElem? (i := 171) rfl
theorem wc_172 : Cond.selects RX6 yX6_checkCoordinate yX6_checkCoordinate ∈ WC := List.mem_of_getElem? (i := 172) rfl
theorem wc_173 : Cond.methodLink RX6 168 yX2_put ∈ WC := List.mem_of_getElem? (i := 173) rfl
theorem wc_174 : Cond.instanceMethod yX2_put ∈ WC := List.mem_of_getElem? (i := 174) rfl
theorem wc_175 : Cond.selects RX2 yX2_put yX2_put ∈ WC := List.mem_of_getElem? (i := 175) rfl
theorem wc_176 : Cond.methodLink RX6 174 yX4_holds ∈ WC := List.mem_of_getElem? (i := 176) rfl
theorem wc_177 : Cond.instanceMethod yX4_holds ∈ WC := List.mem_of_getElem? (i := 177) rfl
theorem wc_178 : Cond.selects RX4 yX4_holds yX4_holds ∈ WC := List.mem_of_getElem? (i := 178) rfl
theorem wc_179 : Cond.methodLink RX6 178 yX6_faceLeftOf ∈ WC := List.mem_of_getElem? (i := 179) rfl
theorem wc_180 : Cond.instanceMethod yX6_faceLeftOf ∈ WC := List.mem_of_getElem? (i := 180) rfl
theorem wc_181 : Cond.selects RX6 yX6_faceLeftOf yX6_faceLeftOf ∈ WC := List.mem_of_getElem? (i := 181) rfl
theorem wc_182 : Cond.code yX4_spans cX4_spans 2 (some .boolean) ∈ WC := List.mem_of_getElem? (i := 182) rfl
theorem wc_183 : Cond.code yX6_crossing cX6_crossing 4 (some .int) ∈ WC := List.mem_of_getElem? (i := 183) rfl
theorem wc_184 : Cond.methodLink RX6 182 yX4_spans ∈ WC := List.mem_of_getElem? (i := 184) rfl
theorem wc_185 : Cond.instanceMethod yX4_spans ∈ WC := List.mem_of_getElem? (i := 185) rfl
theorem wc_186 : Cond.selects RX4 yX4_spans yX4_spans ∈ WC := List.mem_of_getElem? (i := 186) rfl
theorem wc_187 : Cond.code yX6_isBefore cX6_isBefore 8 (some .boolean) ∈ WC := List.mem_of_getElem? (i := 187) rfl
theorem wc_188 : Cond.code yX6_placeAt cX6_placeAt 5 (some .int) ∈ WC := List.mem_of_getElem? (i := 188) rfl
theorem wc_189 : Cond.methodLink RX6 195 yX6_isBefore ∈ WC := List.mem_of_getElem? (i := 189) rfl
theorem wc_190 : Cond.instanceMethod yX6_isBefore ∈ WC := List.mem_of_getElem? (i := 190) rfl
theorem wc_191 : Cond.selects RX6 yX6_isBefore yX6_isBefore ∈ WC := List.mem_of_getElem? (i := 191) rfl
theorem wc_192 : Cond.code yX4_overlaps cX4_overlaps 2 (some .boolean) ∈ WC := List.mem_of_getElem? (i := 192) rfl
theorem wc_193 : Cond.code yX6_overlapsAnyLine cX6_overlapsAnyLine 3 (some .boolean) ∈ WC := List.mem_of_getElem? (i := 193) rfl
theorem wc_194 : Cond.methodLink RX6 217 yX4_overlaps ∈ WC := List.mem_of_getElem? (i := 194) rfl
theorem wc_195 : Cond.instanceMethod yX4_overlaps ∈ WC := List.mem_of_getElem? (i := 195) rfl
theorem wc_196 : Cond.selects RX4 yX4_overlaps yX4_overlaps ∈ WC := List.mem_of_getElem? (i := 196) rfl
theorem wc_197 : Cond.code yX5_clear cX5_clear 1 none ∈ WC := List.mem_of_getElem? (i := 197) rfl
theorem wc_198 : Cond.fieldLink RX5 40 "SegmentMap$Vertices" "count" "I" ∈ WC := List.mem_of_getElem? (i := 198) rfl
theorem wc_199 : Cond.code yX2_compareY cX2_compareY 2 (some .int) ∈ WC := List.mem_of_getElem? (i := 199) rfl
theorem wc_200 : Cond.code yX2_compareOrder cX2_compareOrder 3 (some .int) ∈ WC := List.mem_of_getElem? (i := 200) rfl
theorem wc_201 : Cond.methodLink RX2 36 yX2_compareX ∈ WC := List.mem_of_getElem? (i := 201) rfl
theorem wc_202 : Cond.methodLink RX2 40 yX2_compareY ∈ WC := List.mem_of_getElem? (i := 202) rfl
theorem wc_203 : Cond.instanceMethod yX2_compareY ∈ WC := List.mem_of_getElem? (i := 203) rfl
theorem wc_204 : Cond.selects RX2 yX2_compareY yX2_compareY ∈ WC := List.mem_of_getElem? (i := 204) rfl
theorem wc_205 : Cond.code yX2_copy cX2_copy 2 none ∈ WC := List.mem_of_getElem? (i := 205) rfl
theorem wc_206 : Cond.code yX5_insert cX5_insert 5 none ∈ WC := List.mem_of_getElem? (i := 206) rfl
theorem wc_207 : Cond.methodLink RX5 56 yX2_copy ∈ WC := List.mem_of_getElem? (i := 207) rfl
theorem wc_208 : Cond.instanceMethod yX2_copy ∈ WC := List.mem_of_getElem? (i := 208) rfl
theorem wc_209 : Cond.selects RX2 yX2_copy yX2_copy ∈ WC := List.mem_of_getElem? (i := 209) rfl
theorem wc_210 : Cond.code yX5_include cX5_include 4 none ∈ WC := List.mem_of_getElem? (i := 210) rfl
theorem wc_211 : Cond.methodLink RX5 44 yX5_at ∈ WC := List.mem_of_getElem? (i := 211) rfl
theorem wc_212 : Cond.methodLink RX5 48 yX2_compareOrder ∈ WC := List.mem_of_getElem? (i := 212) rfl
theorem wc_213 : Cond.instanceMethod yX2_compareOrder ∈ WC := List.mem_of_getElem? (i := 213) rfl
theorem wc_214 : Cond.selects RX2 yX2_compareOrder yX2_compareOrder ∈ WC := List.mem_of_getElem? (i := 214) rfl
theorem wc_215 : Cond.methodLink RX5 52 yX5_insert ∈ WC := List.mem_of_getElem? (i := 215) rfl
theorem wc_216 : Cond.instanceMethod yX5_insert ∈ WC := List.mem_of_getElem? (i := 216) rfl
theorem wc_217 : Cond.selects RX5 yX5_insert yX5_insert ∈ WC := List.mem_of_getElem? (i := 217) rfl
theorem wc_218 : Cond.code yX4_isParallel cX4_isParallel 2 (some .boolean) ∈ WC := List.mem_of_getElem? (i := 218) rfl
theorem wc_219 : Cond.code yX4_putMeeting cX4_putMeeting 7 none ∈ WC := List.mem_of_getElem? (i := 219) rfl
theorem wc_220 : Cond.methodLink RX4 64 yX2_put ∈ WC := List.mem_of_getElem? (i := 220) rfl
theorem wc_221 : Cond.code yX6_includeMeeting cX6_includeMeeting 3 none ∈ WC := List.mem_of_getElem? (i := 221) rfl
theorem wc_222 : Cond.methodLink RX6 261 yX4_isParallel ∈ WC := List.mem_of_getElem? (i := 222) rfl
theorem wc_223 : Cond.instanceMethod yX4_isParallel ∈ WC := List.mem_of_getElem? (i := 223) rfl
theorem wc_224 : Cond.selects RX4 yX4_isParallel yX4_isParallel ∈ WC := List.mem_of_getElem? (i := 224) rfl
theorem wc_225 : Cond.methodLink RX6 264 yX4_putMeeting ∈ WC := List.mem_of_getElem? (i := 225) rfl
theorem wc_226 : Cond.instanceMethod yX4_putMeeting ∈ WC := List.mem_of_getElem? (i := 226) rfl
theorem wc_227 : Cond.selects RX4 yX4_putMeeting yX4_putMeeting ∈ WC := List.mem_of_getElem? (i := 227) rfl
theorem wc_228 : Cond.methodLink RX6 247 yX5_include ∈ WC := List.mem_of_getElem? (i := 228) rfl
theorem wc_229 : Cond.instanceMethod yX5_include ∈ WC := List.mem_of_getElem? (i := 229) rfl
theorem wc_230 : Cond.selects RX5 yX5_include yX5_include ∈ WC := List.mem_of_getElem? (i := 230) rfl
theorem wc_231 : Cond.code yX6_gatherVertices cX6_gatherVertices 4 none ∈ WC := List.mem_of_getElem? (i := 231) rfl
theorem wc_232 : Cond.methodLink RX6 238 yX5_clear ∈ WC := List.mem_of_getElem? (i := 232) rfl
theorem wc_233 : Cond.instanceMethod yX5_clear ∈ WC := List.mem_of_getElem? (i := 233) rfl
theorem wc_234 : Cond.selects RX5 yX5_clear yX5_clear ∈ WC := List.mem_of_getElem? (i := 234) rfl
theorem wc_235 : Cond.methodLink RX6 257 yX6_includeMeeting ∈ WC := List.mem_of_getElem? (i := 235) rfl
theorem wc_236 : Cond.instanceMethod yX6_includeMeeting ∈ WC := List.mem_of_getElem? (i := 236) rfl
theorem wc_237 : Cond.selects RX6 yX6_includeMeeting yX6_includeMeeting ∈ WC := List.mem_of_getElem? (i := 237) rfl
theorem wc_238 : Cond.code yX0_clear cX0_clear 1 none ∈ WC := List.mem_of_getElem? (i := 238) rfl
theorem wc_239 : Cond.fieldLink RX0 32 "SegmentMap$Edges" "count" "I" ∈ WC := List.mem_of_getElem? (i := 239) rfl
theorem wc_240 : Cond.code yX3_set cX3_set 3 none ∈ WC := List.mem_of_getElem? (i := 240) rfl
theorem wc_241 : Cond.code yX0_append cX0_append 4 none ∈ WC := List.mem_of_getElem? (i := 241) rfl
theorem wc_242 : Cond.fieldLink RX0 14 "SegmentMap$Edges" "line" "LSegmentMap$Row;" ∈ WC := List.mem_of_getElem? (i := 242) rfl
theorem wc_243 : Cond.fieldLink RX0 20 "SegmentMap$Edges" "start" "LSegmentMap$Row;" ∈ WC := List.mem_of_getElem? (i := 243) rfl
theorem wc_244 : Cond.fieldLink RX0 23 "SegmentMap$Edges" "end" "LSegmentMap$Row;" ∈ WC := List.mem_of_getElem? (i := 244) rfl
theorem wc_245 : Cond.fieldLink RX0 29 "SegmentMap$Edges" "face" "LSegmentMap$Row;" ∈ WC := List.mem_of_getElem? (i := 245) rfl
theorem wc_246 : Cond.methodLink RX0 36 yX3_set ∈ WC := List.mem_of_getElem? (i := 246) rfl
theorem wc_247 : Cond.instanceMethod yX3_set ∈ WC := List.mem_of_getElem? (i := 247) rfl
theorem wc_248 : Cond.selects RX3 yX3_set yX3_set ∈ WC := List.mem_of_getElem? (i := 248) rfl
theorem wc_249 : Cond.code yX6_gatherEdges cX6_gatherEdges 4 none ∈ WC := List.mem_of_getElem? (i := 249) rfl
theorem wc_250 : Cond.methodLink RX6 268 yX0_clear ∈ WC := List.mem_of_getElem? (i := 250) rfl
theorem wc_251 : Cond.instanceMethod yX0_clear ∈ WC := List.mem_of_getElem? (i := 251) rfl
theorem wc_252 : Cond.selects RX0 yX0_clear yX0_clear ∈ WC := List.mem_of_getElem? (i := 252) rfl
theorem wc_253 : Cond.initialized RX0 ∈ WC := List.mem_of_getElem? (i := 253) rfl
theorem wc_254 : Cond.methodLink RX6 269 yX0_append ∈ WC := List.mem_of_getElem? (i := 254) rfl
theorem wc_255 : Cond.instanceMethod yX0_append ∈ WC := List.mem_of_getElem? (i := 255) rfl
theorem wc_256 : Cond.selects RX0 yX0_append yX0_append ∈ WC := List.mem_of_getElem? (i := 256) rfl
theorem wc_257 : Cond.code yX6_sortBySlope cX6_sortBySlope 3 none ∈ WC := List.mem_of_getElem? (i := 257) rfl
theorem wc_258 : Cond.fieldLink RX6 51 "SegmentMap" "bySlope" "LSegmentMap$Row;" ∈ WC := List.mem_of_getElem? (i := 258) rfl
theorem wc_259 : Cond.methodLink RX6 273 yX3_set ∈ WC := List.mem_of_getElem? (i := 259) rfl
theorem wc_260 : Cond.code yX5_resetSides cX5_resetSides 2 none ∈ WC := List.mem_of_getElem? (i := 260) rfl
theorem wc_261 : Cond.fieldLink RX5 27 "SegmentMap$Vertices" "outgoing" "LSegmentMap$Row;" ∈ WC := List.mem_of_getElem? (i := 261) rfl
theorem wc_262 : Cond.fieldLink RX5 31 "SegmentMap$Vertices" "lowest" "LSegmentMap$Row;" ∈ WC := List.mem_of_getElem? (i := 262) rfl
theorem wc_263 : Cond.fieldLink RX5 34 "SegmentMap$Vertices" "top" "LSegmentMap$Row;" ∈ WC := List.mem_of_getElem? (i := 263) rfl
theorem wc_264 : Cond.fieldLink RX5 37 "SegmentMap$Vertices" "root" "LSegmentMap$Row;" ∈ WC := List.mem_of_getElem? (i := 264) rfl
theorem wc_265 : Cond.methodLink RX5 60 yX3_set ∈ WC := List.mem_of_getElem? (i := 265) rfl
theorem wc_266 : Cond.code yX6_spreadSide cX6_spreadSide 3 none ∈ WC := List.mem_of_getElem? (i := 266) rfl
theorem wc_267 : Cond.code yX6_spreadLine cX6_spreadLine 5 none ∈ WC := List.mem_of_getElem? (i := 267) rfl
theorem wc_268 : Cond.methodLink RX6 284 yX6_spreadSide ∈ WC := List.mem_of_getElem? (i := 268) rfl
theorem wc_269 : Cond.instanceMethod yX6_spreadSide ∈ WC := List.mem_of_getElem? (i := 269) rfl
theorem wc_270 : Cond.selects RX6 yX6_spreadSide yX6_spreadSide ∈ WC := List.mem_of_getElem? (i := 270) rfl
theorem wc_271 : Cond.code yX6_spreadEdges cX6_spreadEdges 2 none ∈ WC := List.mem_of_getElem? (i := 271) rfl
theorem wc_272 : Cond.methodLink RX6 277 yX5_resetSides ∈ WC := List.mem_of_getElem? (i := 272) rfl
theorem wc_273 : Cond.instanceMethod yX5_resetSides ∈ WC := List.mem_of_getElem? (i := 273) rfl
theorem wc_274 : Cond.selects RX5 yX5_resetSides yX5_resetSides ∈ WC := List.mem_of_getElem? (i := 274) rfl
theorem wc_275 : Cond.methodLink RX6 280 yX6_spreadLine ∈ WC := List.mem_of_getElem? (i := 275) rfl
theorem wc_276 : Cond.instanceMethod yX6_spreadLine ∈ WC := List.mem_of_getElem? (i := 276) rfl
theorem wc_277 : Cond.selects RX6 yX6_spreadLine yX6_spreadLine ∈ WC := List.mem_of_getElem? (i := 277) rfl
theorem wc_278 : Cond.code yX5_join cX5_join 4 none ∈ WC := List.mem_of_getElem? (i := 278) rfl
theorem wc_279 : Cond.methodLink RX5 64 yX3_get ∈ WC := List.mem_of_getElem? (i := 279) rfl
theorem wc_280 : Cond.code yX6_joinComponents cX6_joinComponents 4 none ∈ WC := List.mem_of_getElem? (i := 280) rfl
theorem wc_281 : Cond.methodLink RX6 299 Lib.Math.min.name ∈ WC := List.mem_of_getElem? (i := 281) rfl
theorem wc_282 : Cond.methodLink RX6 304 Lib.Math.max.name ∈ WC := List.mem_of_getElem? (i := 282) rfl
theorem wc_283 : Cond.methodLink RX6 307 yX5_join ∈ WC := List.mem_of_getElem? (i := 283) rfl
theorem wc_284 : Cond.instanceMethod yX5_join ∈ WC := List.mem_of_getElem? (i := 284) rfl
theorem wc_285 : Cond.selects RX5 yX5_join yX5_join ∈ WC := List.mem_of_getElem? (i := 285) rfl
theorem wc_286 : Cond.code yX1_append cX1_append 2 (some .int) ∈ WC := List.mem_of_getElem? (i := 286) rfl
theorem wc_287 : Cond.fieldLink RX1 14 "SegmentMap$Faces" "first" "LSegmentMap$Row;" ∈ WC := List.mem_of_getElem? (i := 287) rfl
theorem wc_288 : Cond.fieldLink RX1 23 "SegmentMap$Faces" "count" "I" ∈ WC := List.mem_of_getElem? (i := 288) rfl
theorem wc_289 : Cond.fieldLink RX1 20 "SegmentMap$Faces" "sideCount" "LSegmentMap$Row;" ∈ WC := List.mem_of_getElem? (i := 289) rfl
theorem wc_290 : Cond.methodLink RX1 31 yX3_set ∈ WC := List.mem_of_getElem? (i := 290) rfl
theorem wc_291 : Cond.code yX1_clear cX1_clear 1 none ∈ WC := List.mem_of_getElem? (i := 291) rfl
theorem wc_292 : Cond.methodLink RX1 27 yX1_append ∈ WC := List.mem_of_getElem? (i := 292) rfl
theorem wc_293 : Cond.instanceMethod yX1_append ∈ WC := List.mem_of_getElem? (i := 293) rfl
theorem wc_294 : Cond.selects RX1 yX1_append yX1_append ∈ WC := List.mem_of_getElem? (i := 294) rfl
theorem wc_295 : Cond.initialized RX1 ∈ WC := List.mem_of_getElem? (i := 295) rfl
theorem wc_296 : Cond.code yX1_countSide cX1_countSide 2 none ∈ WC := List.mem_of_getElem? (i := 296) rfl
theorem wc_297 : Cond.methodLink RX1 35 yX3_get ∈ WC := List.mem_of_getElem? (i := 297) rfl
theorem wc_298 : Cond.code yX6_paintBorder cX6_paintBorder 5 none ∈ WC := List.mem_of_getElem? (i := 298) rfl
theorem wc_299 : Cond.methodLink RX6 316 yX1_countSide ∈ WC := List.mem_of_getElem? (i := 299) rfl
theorem wc_300 : Cond.instanceMethod yX1_countSide ∈ WC := List.mem_of_getElem? (i := 300) rfl
theorem wc_301 : Cond.selects RX1 yX1_countSide yX1_countSide ∈ WC := List.mem_of_getElem? (i := 301) rfl
theorem wc_302 : Cond.code yX6_gatherFaces cX6_gatherFaces 4 none ∈ WC := List.mem_of_getElem? (i := 302) rfl
theorem wc_303 : Cond.methodLink RX6 310 yX1_clear ∈ WC := List.mem_of_getElem? (i := 303) rfl
theorem wc_304 : Cond.instanceMethod yX1_clear ∈ WC := List.mem_of_getElem? (i := 304) rfl
theorem wc_305 : Cond.selects RX1 yX1_clear yX1_clear ∈ WC := List.mem_of_getElem? (i := 305) rfl
theorem wc_306 : Cond.methodLink RX6 311 yX6_paintBorder ∈ WC := List.mem_of_getElem? (i := 306) rfl
theorem wc_307 : Cond.instanceMethod yX6_paintBorder ∈ WC := List.mem_of_getElem? (i := 307) rfl
theorem wc_308 : Cond.selects RX6 yX6_paintBorder yX6_paintBorder ∈ WC := List.mem_of_getElem? (i := 308) rfl
theorem wc_309 : Cond.methodLink RX6 314 yX1_append ∈ WC := List.mem_of_getElem? (i := 309) rfl
theorem wc_310 : Cond.code yX6_rebuild cX6_rebuild 1 none ∈ WC := List.mem_of_getElem? (i := 310) rfl
theorem wc_311 : Cond.methodLink RX6 220 yX6_gatherVertices ∈ WC := List.mem_of_getElem? (i := 311) rfl
theorem wc_312 : Cond.instanceMethod yX6_gatherVertices ∈ WC := List.mem_of_getElem? (i := 312) rfl
theorem wc_313 : Cond.selects RX6 yX6_gatherVertices yX6_gatherVertices ∈ WC := List.mem_of_getElem? (i := 313) rfl
theorem wc_314 : Cond.methodLink RX6 223 yX6_gatherEdges ∈ WC := List.mem_of_getElem? (i := 314) rfl
theorem wc_315 : Cond.instanceMethod yX6_gatherEdges ∈ WC := List.mem_of_getElem? (i := 315) rfl
theorem wc_316 : Cond.selects RX6 yX6_gatherEdges yX6_gatherEdges ∈ WC := List.mem_of_getElem? (i := 316) rfl
theorem wc_317 : Cond.methodLink RX6 226 yX6_sortBySlope ∈ WC := List.mem_of_getElem? (i := 317) rfl
theorem wc_318 : Cond.instanceMethod yX6_sortBySlope ∈ WC := List.mem_of_getElem? (i := 318) rfl
theorem wc_319 : Cond.selects RX6 yX6_sortBySlope yX6_sortBySlope ∈ WC := List.mem_of_getElem? (i := 319) rfl
theorem wc_320 : Cond.methodLink RX6 229 yX6_spreadEdges ∈ WC := List.mem_of_getElem? (i := 320) rfl
theorem wc_321 : Cond.instanceMethod yX6_spreadEdges ∈ WC := List.mem_of_getElem? (i := 321) rfl
theorem wc_322 : Cond.selects RX6 yX6_spreadEdges yX6_spreadEdges ∈ WC := List.mem_of_getElem? (i := 322) rfl
theorem wc_323 : Cond.methodLink RX6 232 yX6_joinComponents ∈ WC := List.mem_of_getElem? (i := 323) rfl
theorem wc_324 : Cond.instanceMethod yX6_joinComponents ∈ WC := List.mem_of_getElem? (i := 324) rfl
theorem wc_325 : Cond.selects RX6 yX6_joinComponents yX6_joinComponents ∈ WC := List.mem_of_getElem? (i := 325) rfl
theorem wc_326 : Cond.methodLink RX6 235 yX6_gatherFaces ∈ WC := List.mem_of_getElem? (i := 326) rfl
theorem wc_327 : Cond.instanceMethod yX6_gatherFaces ∈ WC := List.mem_of_getElem? (i := 327) rfl
theorem wc_328 : Cond.selects RX6 yX6_gatherFaces yX6_gatherFaces ∈ WC := List.mem_of_getElem? (i := 328) rfl
theorem hWC0 : ∀ w ∈ wsX00, w ∈ WC := fun w h => List.mem_append_right _ (List.mem_append_left _ (List.mem_append_left _ (List.mem_append_left _ (List.mem_append_left _ (List.mem_append_left _ (List.mem_append_left _ (List.mem_append_left _ (h))))))))
theorem hWC1 : ∀ w ∈ wsX10, w ∈ WC := fun w h => List.mem_append_right _ (List.mem_append_left _ (List.mem_append_left _ (List.mem_append_left _ (List.mem_append_left _ (List.mem_append_left _ (List.mem_append_left _ (List.mem_append_right _ h)))))))
theorem hWC2 : ∀ w ∈ wsX20, w ∈ WC := fun w h => List.mem_append_right _ (List.mem_append_left _ (List.mem_append_left _ (List.mem_append_left _ (List.mem_append_left _ (List.mem_append_left _ (List.mem_append_right _ h))))))
theorem hWC3 : ∀ w ∈ wsX30, w ∈ WC := fun w h => List.mem_append_right _ (List.mem_append_left _ (List.mem_append_left _ (List.mem_append_left _ (List.mem_append_left _ (List.mem_append_right _ h)))))
theorem hWC4 : ∀ w ∈ wsX40, w ∈ WC := fun w h => List.mem_append_right _ (List.mem_append_left _ (List.mem_append_left _ (List.mem_append_left _ (List.mem_append_right _ h))))
theorem hWC5 : ∀ w ∈ wsX50, w ∈ WC := fun w h => List.mem_append_right _ (List.mem_append_left _ (List.mem_append_left _ (List.mem_append_right _ h)))
theorem hWC6 : ∀ w ∈ wsX60, w ∈ WC := fun w h => List.mem_append_right _ (List.mem_append_left _ (List.mem_append_right _ h))
theorem hWC7 : ∀ w ∈ wsJx4a65c0, w ∈ WC := fun w h => List.mem_append_right _ (List.mem_append_right _ h)
def vJx4a65c_size_8abf5 : List Cond := Cond.code yJx4a65c_size_8abf5 cJx4a65c_size_8abf5 1 (some .int) :: WC
def vX6_segments : List Cond := Cond.code yX6_segments cX6_segments 1 (some .int) :: WC
def vX6_checkSegment : List Cond := Cond.code yX6_checkSegment cX6_checkSegment 2 none :: WC
def vJ3_checkIndex_8e157 : List Cond := Cond.code yJ3_checkIndex_8e157 cJ3_checkIndex_8e157 3 (some .int) :: WC
def vJ15_checkIndex_7cf53 : List Cond := Cond.code yJ15_checkIndex_7cf53 cJ15_checkIndex_7cf53 2 (some .int) :: WC
def vJx4a65c_elementData_915e3 : List Cond := Cond.code yJx4a65c_elementData_915e3 cJx4a65c_elementData_915e3 2 (some (.object "java/lang/Object")) :: WC
def vJx4a65c_get_915e3 : List Cond := Cond.code yJx4a65c_get_915e3 cJx4a65c_get_915e3 2 (some (.object "java/lang/Object")) :: WC
def vX6_lineAt : List Cond := Cond.code yX6_lineAt cX6_lineAt 2 (some (.object "SegmentMap$Segment")) :: WC
def vX4_turn : List Cond := Cond.code yX4_turn cX4_turn 2 (some .long) :: WC
def vX4_share : List Cond := Cond.code yX4_share cX4_share 6 (some .long) :: WC
def vX4_rank : List Cond := Cond.code yX4_rank cX4_rank 2 (some .int) :: WC
def vX4_commonStretch : List Cond := Cond.code yX4_commonStretch cX4_commonStretch 4 (some .int) :: WC
def vX4_isPart : List Cond := Cond.code yX4_isPart cX4_isPart 4 (some .boolean) :: WC
def vX4_touches : List Cond := Cond.code yX4_touches cX4_touches 4 (some .boolean) :: WC
def vX6_meet : List Cond := Cond.code yX6_meet cX6_meet 3 (some .boolean) :: WC
def vX6_vertices : List Cond := Cond.code yX6_vertices cX6_vertices 1 (some .int) :: WC
def vX6_edges : List Cond := Cond.code yX6_edges cX6_edges 1 (some .int) :: WC
def vX6_faces : List Cond := Cond.code yX6_faces cX6_faces 1 (some .int) :: WC
def vX6_components : List Cond := Cond.code yX6_components cX6_components 1 (some .int) :: WC
def vX6_checkVertex : List Cond := Cond.code yX6_checkVertex cX6_checkVertex 2 none :: WC
def vX5_at : List Cond := Cond.code yX5_at cX5_at 2 (some (.object "SegmentMap$Point")) :: WC
def vX6_xNumerator : List Cond := Cond.code yX6_xNumerator cX6_xNumerator 2 (some .int) :: WC
def vX6_xDenominator : List Cond := Cond.code yX6_xDenominator cX6_xDenominator 2 (some .int) :: WC
def vX6_yNumerator : List Cond := Cond.code yX6_yNumerator cX6_yNumerator 2 (some .int) :: WC
def vX6_yDenominator : List Cond := Cond.code yX6_yDenominator cX6_yDenominator 2 (some .int) :: WC
def vX3_get : List Cond := Cond.code yX3_get cX3_get 2 (some .int) :: WC
def vX6_degree : List Cond := Cond.code yX6_degree cX6_degree 2 (some .int) :: WC
def vX6_checkEdge : List Cond := Cond.code yX6_checkEdge cX6_checkEdge 2 none :: WC
def vX6_segmentOf : List Cond := Cond.code yX6_segmentOf cX6_segmentOf 2 (some .int) :: WC
def vX6_from : List Cond := Cond.code yX6_from cX6_from 2 (some .int) :: WC
def vX6_to : List Cond := Cond.code yX6_to cX6_to 2 (some .int) :: WC
def vX6_leftOf : List Cond := Cond.code yX6_leftOf cX6_leftOf 2 (some .int) :: WC
def vX6_rightOf : List Cond := Cond.code yX6_rightOf cX6_rightOf 2 (some .int) :: WC
def vX6_checkFace : List Cond := Cond.code yX6_checkFace cX6_checkFace 2 none :: WC
def vX6_sides : List Cond := Cond.code yX6_sides cX6_sides 2 (some .int) :: WC
def vX6_firstVertex : List Cond := Cond.code yX6_firstVertex cX6_firstVertex 2 (some .int) :: WC
def vX6_checkCoordinate : List Cond := Cond.code yX6_checkCoordinate cX6_checkCoordinate 2 none :: WC
def vX2_commonDivisor : List Cond := Cond.code yX2_commonDivisor cX2_commonDivisor 11 (some .long) :: WC
def vX2_put : List Cond := Cond.code yX2_put cX2_put 13 none :: WC
def vX4_height : List Cond := Cond.code yX4_height cX4_height 2 (some .long) :: WC
def vJ13_compare_74951 : List Cond := Cond.code yJ13_compare_74951 cJ13_compare_74951 4 (some .int) :: WC
def vX4_compareHeight : List Cond := Cond.code yX4_compareHeight cX4_compareHeight 2 (some .int) :: WC
def vX4_holds : List Cond := Cond.code yX4_holds cX4_holds 2 (some .boolean) :: WC
def vX2_compareX : List Cond := Cond.code yX2_compareX cX2_compareX 2 (some .int) :: WC
def vX6_isUnder : List Cond := Cond.code yX6_isUnder cX6_isUnder 3 (some .boolean) :: WC
def vX4_compareHeights : List Cond := Cond.code yX4_compareHeights cX4_compareHeights 3 (some .int) :: WC
def vX4_compareSlopes : List Cond := Cond.code yX4_compareSlopes cX4_compareSlopes 2 (some .int) :: WC
def vX6_isHigher : List Cond := Cond.code yX6_isHigher cX6_isHigher 7 (some .boolean) :: WC
def vX6_faceLeftOf : List Cond := Cond.code yX6_faceLeftOf cX6_faceLeftOf 4 (some .int) :: WC
def vX6_faceAt : List Cond := Cond.code yX6_faceAt cX6_faceAt 4 (some .int) :: WC
def vX4_spans : List Cond := Cond.code yX4_spans cX4_spans 2 (some .boolean) :: WC
def vX6_crossing : List Cond := Cond.code yX6_crossing cX6_crossing 4 (some .int) :: WC
def vX6_isBefore : List Cond := Cond.code yX6_isBefore cX6_isBefore 8 (some .boolean) :: WC
def vX6_placeAt : List Cond := Cond.code yX6_placeAt cX6_placeAt 5 (some .int) :: WC
def vX4_overlaps : List Cond := Cond.code yX4_overlaps cX4_overlaps 2 (some .boolean) :: WC
def vX6_overlapsAnyLine : List Cond := Cond.code yX6_overlapsAnyLine cX6_overlapsAnyLine 3 (some .boolean) :: WC
def vX5_clear : List Cond := Cond.code yX5_clear cX5_clear 1 none :: WC
def vX2_compareY : List Cond := Cond.code yX2_compareY cX2_compareY 2 (some .int) :: WC
def vX2_compareOrder : List Cond := Cond.code yX2_compareOrder cX2_compareOrder 3 (some .int) :: WC
def vX2_copy : List Cond := Cond.code yX2_copy cX2_copy 2 none :: WC
def vX5_insert : List Cond := Cond.code yX5_insert cX5_insert 5 none :: WC
def vX5_include : List Cond := Cond.code yX5_include cX5_include 4 none :: WC
def vX4_isParallel : List Cond := Cond.code yX4_isParallel cX4_isParallel 2 (some .boolean) :: WC
def vX4_putMeeting : List Cond := Cond.code yX4_putMeeting cX4_putMeeting 7 none :: WC
def vX6_includeMeeting : List Cond := Cond.code yX6_includeMeeting cX6_includeMeeting 3 none :: WC
def vX6_gatherVertices : List Cond := Cond.code yX6_gatherVertices cX6_gatherVertices 4 none :: WC
def vX0_clear : List Cond := Cond.code yX0_clear cX0_clear 1 none :: WC
def vX3_set : List Cond := Cond.code yX3_set cX3_set 3 none :: WC
def vX0_append : List Cond := Cond.code yX0_append cX0_append 4 none :: WC
def vX6_gatherEdges : List Cond := Cond.code yX6_gatherEdges cX6_gatherEdges 4 none :: WC
def vX6_sortBySlope : List Cond := Cond.code yX6_sortBySlope cX6_sortBySlope 3 none :: WC
def vX5_resetSides : List Cond := Cond.code yX5_resetSides cX5_resetSides 2 none :: WC
def vX6_spreadSide : List Cond := Cond.code yX6_spreadSide cX6_spreadSide 3 none :: WC
def vX6_spreadLine : List Cond := Cond.code yX6_spreadLine cX6_spreadLine 5 none :: WC
def vX6_spreadEdges : List Cond := Cond.code yX6_spreadEdges cX6_spreadEdges 2 none :: WC
def vX5_join : List Cond := Cond.code yX5_join cX5_join 4 none :: WC
def vX6_joinComponents : List Cond := Cond.code yX6_joinComponents cX6_joinComponents 4 none :: WC
def vX1_append : List Cond := Cond.code yX1_append cX1_append 2 (some .int) :: WC
def vX1_clear : List Cond := Cond.code yX1_clear cX1_clear 1 none :: WC
def vX1_countSide : List Cond := Cond.code yX1_countSide cX1_countSide 2 none :: WC
def vX6_paintBorder : List Cond := Cond.code yX6_paintBorder cX6_paintBorder 5 none :: WC
def vX6_gatherFaces : List Cond := Cond.code yX6_gatherFaces cX6_gatherFaces 4 none :: WC
def vX6_rebuild : List Cond := Cond.code yX6_rebuild cX6_rebuild 1 none :: WC
def WM : List Cond := []
theorem WM_all : WM.all goodWord = true := rfl
