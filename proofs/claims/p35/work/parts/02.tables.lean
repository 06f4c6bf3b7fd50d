/-! the program's tables: classes, fields, methods; links by their places among the tables' words -/
def xC : Nat → String := fun k => match k with
  | 0 => "BusRack$History"
  | 1 => "BusRack$Layout"
  | 2 => "BusRack$Rack"
  | 3 => "BusRack$Reader"
  | 4 => "BusRack"
  | 5 => "BusRack$Numbers"
  | 6 => "BusRack$Room"
  | 7 => "java/lang/Integer"
  | 8 => "java/lang/Math"
  | 9 => "java/util/Arrays"
  | 10 => "BusRackLaw"
  | _ => "java/lang/Object"
def xT : Nat → u_T := fun c => match c with
  | 0 => fun k => match k with
    | 0 => ("BusRack$History", "states", "[LBusRack$Rack;", true)
    | _ => ("BusRack$History", "count", "I", false)
  | 1 => fun k => match k with
    | 0 => ("BusRack$Layout", "needs", "[I", true)
    | 1 => ("BusRack$Layout", "alignments", "[I", true)
    | 2 => ("BusRack$Layout", "itemSizes", "[I", true)
    | 3 => ("BusRack$Layout", "itemAlignments", "[I", true)
    | 4 => ("BusRack$Layout", "starts", "[I", true)
    | 5 => ("BusRack$Layout", "waitingBuses", "[I", true)
    | _ => ("BusRack$Layout", "waiting", "I", false)
  | 2 => fun k => match k with
    | 0 => ("BusRack$Rack", "kinds", "[I", true)
    | 1 => ("BusRack$Rack", "buses", "[I", true)
    | 2 => ("BusRack$Rack", "slots", "[I", true)
    | 3 => ("BusRack$Rack", "held", "[I", true)
    | 4 => ("BusRack$Rack", "regionSpaces", "[I", true)
    | 5 => ("BusRack$Rack", "regionSizes", "[I", true)
    | 6 => ("BusRack$Rack", "regionBases", "[I", true)
    | 7 => ("BusRack$Rack", "reserves", "[I", true)
    | 8 => ("BusRack$Rack", "windowBases", "[I", true)
    | 9 => ("BusRack$Rack", "windowSizes", "[I", true)
    | 10 => ("BusRack$Rack", "firstNumbers", "[I", true)
    | 11 => ("BusRack$Rack", "lastNumbers", "[I", true)
    | _ => ("BusRack$Rack", "gap", "I", false)
  | 3 => fun k => match k with
    | 0 => ("BusRack$Reader", "rack", "LBusRack$Rack;", true)
    | 1 => ("BusRack$Reader", "count", "I", false)
    | 2 => ("BusRack$Reader", "due", "I", false)
    | 3 => ("BusRack$Reader", "level", "I", false)
    | 4 => ("BusRack$Reader", "openBuses", "[I", true)
    | 5 => ("BusRack$Reader", "lastSlots", "[I", true)
    | 6 => ("BusRack$Reader", "regions", "I", false)
    | _ => ("BusRack$Reader", "space", "I", false)
  | 4 => fun k => match k with
    | 0 => ("BusRack", "rack", "LBusRack$Rack;", true)
    | 1 => ("BusRack", "snapshot", "LBusRack$Rack;", true)
    | 2 => ("BusRack", "hasSnapshot", "Z", false)
    | 3 => ("BusRack", "history", "LBusRack$History;", true)
    | 4 => ("BusRack", "layout", "LBusRack$Layout;", true)
    | 5 => ("BusRack", "reader", "LBusRack$Reader;", true)
    | 6 => ("BusRack", "text", "[C", true)
    | _ => ("BusRack", "textLength", "I", false)
  | _ => fun _ => ("", "", "", false)
def xt : Nat → Nat → FieldType := fun c => match c with
  | 0 => fun k => match k with
    | 0 => .array (.object "BusRack$Rack")
    | _ => .int
  | 1 => fun k => match k with
    | 0 => .array .int
    | 1 => .array .int
    | 2 => .array .int
    | 3 => .array .int
    | 4 => .array .int
    | 5 => .array .int
    | _ => .int
  | 2 => fun k => match k with
    | 0 => .array .int
    | 1 => .array .int
    | 2 => .array .int
    | 3 => .array .int
    | 4 => .array .int
    | 5 => .array .int
    | 6 => .array .int
    | 7 => .array .int
    | 8 => .array .int
    | 9 => .array .int
    | 10 => .array .int
    | 11 => .array .int
    | _ => .int
  | 3 => fun k => match k with
    | 0 => .object "BusRack$Rack"
    | 1 => .int
    | 2 => .int
    | 3 => .int
    | 4 => .array .int
    | 5 => .array .int
    | 6 => .int
    | _ => .int
  | 4 => fun k => match k with
    | 0 => .object "BusRack$Rack"
    | 1 => .object "BusRack$Rack"
    | 2 => .boolean
    | 3 => .object "BusRack$History"
    | 4 => .object "BusRack$Layout"
    | 5 => .object "BusRack$Reader"
    | 6 => .array .char
    | _ => .int
  | _ => fun _ => .int
def xN : Nat → Nat := fun c => match c with
  | 0 => 2
  | 1 => 7
  | 2 => 13
  | 3 => 8
  | 4 => 8
  | _ => 0
def xcl : List vw_C := [(xC 0, xT 0, xN 0), (xC 1, xT 1, xN 1), (xC 2, xT 2, xN 2), (xC 3, xT 3, xN 3), (xC 4, xT 4, xN 4)]
def xlay : List Nat := [108, 110, 128, 130, 132, 134, 136, 138, 140, 69, 71, 73, 75, 77, 79, 81, 83, 85, 87, 89, 91, 93, 159, 161, 163, 165, 167, 169, 171, 173, 184, 186, 188, 190, 192, 194, 196, 198]
def xM : List (MethodName × ByteArray × Nat × Option FieldType × Nat × Nat) := [
  (⟨"BusRack", "<init>", "()V"⟩, prog_1_method_1_code, 1, none, 4, 0),
  (⟨"java/lang/Object", "<init>", "()V"⟩, object_method_1_code, 1, none, 11, 0),
  (⟨"BusRack$Rack", "<init>", "()V"⟩, prog_5_method_1_code, 1, none, 2, 0),
  (⟨"BusRack$Rack", "empty", "()V"⟩, prog_5_method_2_code, 1, none, 2, 0),
  (⟨"java/util/Arrays", "fill", "([II)V"⟩, prog_13_method_103_code, 4, none, 9, 2),
  (⟨"BusRack$History", "<init>", "()V"⟩, prog_2_method_1_code, 2, none, 0, 0),
  (⟨"BusRack$Layout", "<init>", "()V"⟩, prog_3_method_1_code, 1, none, 1, 0),
  (⟨"BusRack$Reader", "<init>", "()V"⟩, prog_6_method_1_code, 1, none, 3, 0),
  (⟨"BusRack", "addCard", "(II)I"⟩, prog_1_method_2_code, 3, some .int, 4, 2),
  (⟨"BusRack", "addDevice", "(III)I"⟩, prog_1_method_4_code, 5, some .int, 4, 3),
  (⟨"BusRack$Rack", "isBus", "(I)Z"⟩, prog_5_method_8_code, 2, some .boolean, 2, 1),
  (⟨"BusRack$Rack", "isBridge", "(I)Z"⟩, prog_5_method_6_code, 2, some .boolean, 2, 1),
  (⟨"BusRack", "isSlot", "(I)Z"⟩, prog_1_method_38_code, 1, some .boolean, 4, 1),
  (⟨"BusRack$Rack", "deviceAt", "(II)I"⟩, prog_5_method_9_code, 4, some .int, 2, 2),
  (⟨"BusRack$Rack", "depthOfBus", "(I)I"⟩, prog_5_method_16_code, 4, some .int, 2, 1),
  (⟨"BusRack$Rack", "leastFreeNumber", "()I"⟩, prog_5_method_10_code, 2, some .int, 2, 0),
  (⟨"BusRack$History", "record", "(LBusRack$Rack;)V"⟩, prog_2_method_2_code, 3, none, 0, 1),
  (⟨"BusRack$History", "dropOldest", "()V"⟩, prog_2_method_3_code, 3, none, 0, 0),
  (⟨"BusRack$Rack", "copyFrom", "(LBusRack$Rack;)V"⟩, prog_5_method_3_code, 2, none, 2, 1),
  (⟨"BusRack$Rack", "put", "(IIII)V"⟩, prog_5_method_11_code, 5, none, 2, 4),
  (⟨"BusRack", "addBridge", "(II)I"⟩, prog_1_method_3_code, 3, some .int, 4, 2),
  (⟨"BusRack", "undo", "()I"⟩, prog_1_method_19_code, 1, some .int, 4, 0),
  (⟨"BusRack$History", "takeLatestInto", "(LBusRack$Rack;)I"⟩, prog_2_method_4_code, 3, some .int, 0, 1),
  (⟨"BusRackLaw", "cell", "([II)I"⟩, method_2_code, 2, some .int, 10, 2),
  (⟨"BusRackLaw", "low", "(II)I"⟩, method_3_code, 2, some .int, 10, 2),
  (⟨"BusRackLaw", "hangs", "(LBusRack;I)Z"⟩, method_11_code, 8, some .boolean, 10, 2),
  (⟨"BusRackLaw", "isBridge", "(LBusRack;I)Z"⟩, method_7_code, 2, some .boolean, 10, 2),
  (⟨"BusRack", "bridges", "()I"⟩, prog_1_method_23_code, 1, some .int, 4, 0),
  (⟨"BusRack$Rack", "maskOf", "(I)I"⟩, prog_5_method_19_code, 4, some .int, 2, 1),
  (⟨"BusRack", "deviceIn", "(II)I"⟩, prog_1_method_24_code, 3, some .int, 4, 2),
  (⟨"BusRack", "depth", "(I)I"⟩, prog_1_method_25_code, 2, some .int, 4, 1),
  (⟨"BusRack$Rack", "isDevice", "(I)Z"⟩, prog_5_method_4_code, 2, some .boolean, 2, 1),
  (⟨"BusRackLaw", "numbers", "(LBusRack;I)Z"⟩, method_10_code, 10, some .boolean, 10, 2),
  (⟨"BusRack", "firstNumber", "(I)I"⟩, prog_1_method_28_code, 2, some .int, 4, 1),
  (⟨"BusRack", "lastNumber", "(I)I"⟩, prog_1_method_29_code, 2, some .int, 4, 1),
  (⟨"BusRack", "answer", "(II)I"⟩, prog_1_method_34_code, 3, some .int, 4, 2),
  (⟨"BusRack$Rack", "busWithNumber", "(I)I"⟩, prog_5_method_23_code, 3, some .int, 2, 1),
  (⟨"BusRackLaw", "bus", "(LBusRack;II)Z"⟩, method_8_code, 11, some .boolean, 10, 3),
  (⟨"BusRack", "windowBase", "(II)I"⟩, prog_1_method_30_code, 3, some .int, 4, 2),
  (⟨"BusRack", "isSpace", "(I)Z"⟩, prog_1_method_40_code, 1, some .boolean, 4, 1),
  (⟨"BusRack", "windowIndex", "(II)I"⟩, prog_1_method_48_code, 2, some .int, 4, 2),
  (⟨"BusRackLaw", "all", "(I)I"⟩, method_4_code, 1, some .int, 10, 1),
  (⟨"BusRack", "windowSize", "(II)I"⟩, prog_1_method_31_code, 3, some .int, 4, 2),
  (⟨"BusRackLaw", "grain", "(I)I"⟩, method_5_code, 1, some .int, 10, 1),
  (⟨"BusRackLaw", "isCard", "(LBusRack;I)Z"⟩, method_6_code, 2, some .boolean, 10, 2),
  (⟨"BusRack", "devices", "()I"⟩, prog_1_method_22_code, 1, some .int, 4, 0),
  (⟨"BusRack", "base", "(II)I"⟩, prog_1_method_27_code, 3, some .int, 4, 2),
  (⟨"BusRack$Rack", "isCard", "(I)Z"⟩, prog_5_method_5_code, 2, some .boolean, 2, 1),
  (⟨"BusRack", "isRegion", "(I)Z"⟩, prog_1_method_39_code, 1, some .boolean, 4, 1),
  (⟨"BusRack", "regionIndex", "(II)I"⟩, prog_1_method_47_code, 2, some .int, 4, 2),
  (⟨"BusRack", "size", "(II)I"⟩, prog_1_method_26_code, 3, some .int, 4, 2),
  (⟨"BusRack", "find", "(II)I"⟩, prog_1_method_35_code, 3, some .int, 4, 2),
  (⟨"BusRack", "addressesOf", "(I)I"⟩, prog_1_method_43_code, 1, some .int, 4, 1),
  (⟨"BusRack$Rack", "regionCovering", "(II)I"⟩, prog_5_method_24_code, 5, some .int, 2, 2),
  (⟨"BusRack", "freeRoom", "(II)I"⟩, prog_1_method_36_code, 3, some .int, 4, 2),
  (⟨"BusRack$Room", "countFree", "(LBusRack$Rack;II)I"⟩, prog_7_method_6_code, 5, some .int, 6, 3),
  (⟨"BusRack$Room", "extentOf", "(LBusRack$Rack;II)I"⟩, prog_7_method_3_code, 3, some .int, 6, 3),
  (⟨"BusRack$Room", "coverStart", "(LBusRack$Rack;III)I"⟩, prog_7_method_4_code, 6, some .int, 6, 4),
  (⟨"BusRack$Room", "coverSize", "(LBusRack$Rack;III)I"⟩, prog_7_method_5_code, 5, some .int, 6, 4),
  (⟨"BusRackLaw", "fits", "(LBusRack;III)Z"⟩, method_9_code, 6, some .boolean, 10, 4),
  (⟨"BusRack", "firstFit", "(III)I"⟩, prog_1_method_37_code, 4, some .int, 4, 3),
  (⟨"BusRack", "isSizeOf", "(II)Z"⟩, prog_1_method_41_code, 2, some .boolean, 4, 2),
  (⟨"BusRack", "grainOf", "(I)I"⟩, prog_1_method_44_code, 1, some .int, 4, 1),
  (⟨"BusRack", "largestSizeOf", "(I)I"⟩, prog_1_method_46_code, 1, some .int, 4, 1),
  (⟨"BusRack", "largestExponentOf", "(I)I"⟩, prog_1_method_45_code, 1, some .int, 4, 1),
  (⟨"java/lang/Integer", "bitCount", "(I)I"⟩, prog_10_method_49_code, 1, some .int, 7, 1),
  (⟨"BusRack$Room", "fitIn", "(LBusRack$Rack;IIII)I"⟩, prog_7_method_7_code, 9, some .int, 6, 5),
  (⟨"BusRack$Room", "startOf", "(LBusRack$Rack;II)I"⟩, prog_7_method_2_code, 3, some .int, 6, 3),
  (⟨"BusRack", "roundUp", "(II)I"⟩, prog_1_method_50_code, 2, some .int, 4, 2),
  (⟨"BusRack$Room", "endOfCover", "(LBusRack$Rack;IIII)I"⟩, prog_7_method_8_code, 8, some .int, 6, 5),
  (⟨"BusRack", "need", "(II)I"⟩, prog_1_method_32_code, 3, some .int, 4, 2),
  (⟨"BusRack$Layout", "measure", "(LBusRack$Rack;I)V"⟩, prog_3_method_2_code, 5, none, 1, 2),
  (⟨"BusRack$Layout", "measureBridge", "(LBusRack$Rack;II)V"⟩, prog_3_method_3_code, 4, none, 1, 3),
  (⟨"BusRack$Layout", "listItems", "(LBusRack$Rack;II)V"⟩, prog_3_method_4_code, 7, none, 1, 3),
  (⟨"BusRack$Rack", "isNumbered", "(I)Z"⟩, prog_5_method_7_code, 2, some .boolean, 2, 1),
  (⟨"BusRack$Layout", "pack", "(III)I"⟩, prog_3_method_6_code, 10, some .int, 1, 3),
  (⟨"BusRack$Layout", "greatestAlignment", "(I)I"⟩, prog_3_method_5_code, 4, some .int, 1, 1),
  (⟨"java/lang/Math", "max", "(II)I"⟩, prog_11_method_65_code, 2, some .int, 8, 2),
  (⟨"BusRack", "unplaced", "()I"⟩, prog_1_method_33_code, 1, some .int, 4, 0),
  (⟨"BusRack$Rack", "countUnplaced", "()I"⟩, prog_5_method_21_code, 3, some .int, 2, 0),
  (⟨"BusRackLaw", "print", "(LBusRack;)J"⟩, method_12_code, 5, some .long, 10, 1),
  (⟨"BusRackLaw", "act", "(LBusRack;I)I"⟩, method_13_code, 4, some .int, 10, 2),
  (⟨"BusRack", "setRegion", "(IIII)I"⟩, prog_1_method_5_code, 6, some .int, 4, 4),
  (⟨"BusRack$Rack", "changeRegion", "(IIII)V"⟩, prog_5_method_13_code, 6, none, 2, 4),
  (⟨"BusRack", "setReserve", "(III)I"⟩, prog_1_method_6_code, 6, some .int, 4, 3),
  (⟨"BusRack", "isReserveOf", "(II)Z"⟩, prog_1_method_42_code, 3, some .boolean, 4, 2),
  (⟨"BusRack", "pull", "(I)I"⟩, prog_1_method_8_code, 4, some .int, 4, 1),
  (⟨"BusRack$Rack", "familyOf", "(I)I"⟩, prog_5_method_18_code, 4, some .int, 2, 1),
  (⟨"BusRack$Rack", "isWithin", "(II)Z"⟩, prog_5_method_17_code, 5, some .boolean, 2, 2),
  (⟨"BusRack", "isIn", "(II)Z"⟩, prog_1_method_49_code, 2, some .boolean, 4, 2),
  (⟨"BusRack$Rack", "remove", "(I)V"⟩, prog_5_method_12_code, 3, none, 2, 1),
  (⟨"BusRack$Rack", "release", "(I)I"⟩, prog_5_method_15_code, 5, some .int, 2, 1),
  (⟨"BusRack", "setGap", "(I)I"⟩, prog_1_method_7_code, 3, some .int, 4, 1),
  (⟨"BusRack", "detach", "(I)I"⟩, prog_1_method_14_code, 5, some .int, 4, 1),
  (⟨"BusRack", "attach", "(I)I"⟩, prog_1_method_10_code, 2, some .int, 4, 1),
  (⟨"BusRack$Rack", "numberOf", "(I)I"⟩, prog_5_method_22_code, 2, some .int, 2, 1),
  (⟨"BusRack", "attachCard", "(I)I"⟩, prog_1_method_11_code, 7, some .int, 4, 1),
  (⟨"BusRack", "attachBridge", "(I)I"⟩, prog_1_method_12_code, 4, some .int, 4, 1),
  (⟨"BusRack$Numbers", "leastFor", "(LBusRack$Rack;I)I"⟩, prog_4_method_4_code, 5, some .int, 5, 2),
  (⟨"BusRack$Numbers", "isTaken", "(LBusRack$Rack;II)Z"⟩, prog_4_method_5_code, 5, some .boolean, 5, 3),
  (⟨"BusRack", "attachWindow", "(II)I"⟩, prog_1_method_13_code, 5, some .int, 4, 2),
  (⟨"BusRack$Rack", "openWindow", "(IIII)V"⟩, prog_5_method_14_code, 5, none, 2, 4),
  (⟨"BusRack$Layout", "place", "(LBusRack$Rack;II)I"⟩, prog_3_method_7_code, 6, some .int, 1, 3),
  (⟨"BusRack$Layout", "placeItems", "(LBusRack$Rack;II)I"⟩, prog_3_method_8_code, 7, some .int, 1, 3),
  (⟨"BusRackLaw", "plugs", "(LBusRack;I)Z"⟩, method_14_code, 9, some .boolean, 10, 2),
  (⟨"BusRack", "enumerate", "()I"⟩, prog_1_method_9_code, 2, some .int, 4, 0),
  (⟨"BusRack$Numbers", "numberAll", "(LBusRack$Rack;)V"⟩, prog_4_method_2_code, 1, none, 5, 1),
  (⟨"BusRack$Numbers", "numberBus", "(LBusRack$Rack;III)I"⟩, prog_4_method_3_code, 8, some .int, 5, 4),
  (⟨"java/lang/Math", "min", "(II)I"⟩, prog_11_method_69_code, 2, some .int, 8, 2),
  (⟨"BusRackLaw", "law", "([I)Z"⟩, code, 8, some .boolean, 10, 1)]
def xcode : List Nat := [16, 19, 24, 29, 32, 101, 117, 147, 205, 209, 213, 217, 220, 224, 228, 232, 236, 240, 244, 251, 255, 259, 263, 266, 271, 275, 278, 282, 286, 290, 294, 298, 301, 305, 310, 314, 318, 321, 325, 328, 331, 334, 338, 341, 344, 348, 352, 356, 359, 362, 366, 370, 373, 377, 381, 384, 387, 393, 399, 402, 406, 409, 412, 415, 418, 421, 427, 430, 433, 436, 440, 444, 450, 454, 461, 466, 475, 478, 482, 486, 489, 497, 501, 505, 510, 513, 518, 522, 527, 530, 534, 538, 543, 547, 552, 556, 560, 564, 568, 573, 579, 583, 587, 591, 597, 601, 604, 607, 610]
def xm (k : Nat) : MethodName × ByteArray × Nat × Option FieldType × Nat × Nat := xM.getD k (⟨"", "", ""⟩, ByteArray.empty, 0, none, 0, 0)
def mY (k : Nat) : MethodName := (xm k).1
def mB (k : Nat) : ByteArray := (xm k).2.1
def mL (k : Nat) : Nat := (xm k).2.2.1
def mR (k : Nat) : Option FieldType := (xm k).2.2.2.1
def mO (k : Nat) : Nat := (xm k).2.2.2.2.1
def mP (k : Nat) : Nat := (xm k).2.2.2.2.2
def xF : List ((Nat × Nat) × (Nat × Nat × Nat)) := [((2, 9), (2, 0, 33)), ((2, 15), (2, 1, 34)), ((5, 41), (2, 1, 35)), ((4, 158), (2, 1, 36)), ((2, 18), (2, 2, 37)), ((2, 21), (2, 3, 38)), ((2, 24), (2, 4, 39)), ((6, 36), (2, 4, 40)), ((1, 72), (2, 4, 41)), ((4, 173), (2, 4, 42)), ((2, 27), (2, 5, 43)), ((1, 78), (2, 5, 44)), ((6, 45), (2, 5, 45)), ((4, 96), (2, 5, 46)), ((2, 30), (2, 6, 47)), ((6, 42), (2, 6, 48)), ((1, 116), (2, 6, 49)), ((4, 170), (2, 6, 50)), ((2, 33), (2, 7, 51)), ((1, 56), (2, 7, 52)), ((4, 115), (2, 7, 53)), ((2, 36), (2, 8, 54)), ((6, 15), (2, 8, 55)), ((4, 201), (2, 8, 56)), ((2, 39), (2, 9, 57)), ((6, 23), (2, 9, 58)), ((4, 231), (2, 9, 59)), ((2, 42), (2, 10, 60)), ((5, 25), (2, 10, 61)), ((4, 189), (2, 10, 62)), ((2, 45), (2, 11, 63)), ((5, 29), (2, 11, 64)), ((4, 192), (2, 11, 65)), ((2, 48), (2, 12, 66)), ((5, 32), (2, 12, 67)), ((4, 118), (2, 12, 68)), ((0, 11), (0, 0, 106)), ((0, 17), (0, 1, 107)), ((1, 9), (1, 0, 119)), ((4, 198), (1, 0, 120)), ((1, 15), (1, 1, 121)), ((4, 204), (1, 1, 122)), ((1, 18), (1, 2, 123)), ((1, 21), (1, 3, 124)), ((1, 24), (1, 4, 125)), ((1, 27), (1, 5, 126)), ((1, 30), (1, 6, 127)), ((3, 12), (3, 0, 151)), ((3, 18), (3, 1, 152)), ((3, 22), (3, 2, 153)), ((3, 25), (3, 3, 154)), ((3, 28), (3, 4, 155)), ((3, 32), (3, 5, 156)), ((3, 35), (3, 6, 157)), ((3, 38), (3, 7, 158)), ((4, 12), (4, 0, 176)), ((4, 16), (4, 1, 177)), ((4, 19), (4, 2, 178)), ((4, 26), (4, 3, 179)), ((4, 33), (4, 4, 180)), ((4, 40), (4, 5, 181)), ((4, 44), (4, 6, 182)), ((4, 48), (4, 7, 183))]
def xK : List ((Nat × Nat) × (Nat × Nat)) := [((10, 11), (4, 12)), ((4, 9), (2, 20)), ((4, 23), (0, 97)), ((0, 9), (2, 103)), ((4, 30), (1, 113)), ((4, 37), (3, 143)), ((3, 9), (2, 149))]
def xVL : List ((Nat × Nat) × (Int64 × Nat)) := [((10, 93), (31, 490)), ((10, 95), (3, 491)), ((10, 97), (5, 492)), ((10, 99), (7, 493)), ((10, 101), (9, 494))]
def xV : List ((Nat × Nat) × (Int32 × Nat)) := [((10, 7), (765356867, 267)), ((10, 8), (415756965, 268)), ((10, 9), (2147483647, 272)), ((7, 265), (1431655765, 422)), ((7, 266), (858993459, 423)), ((7, 267), (252645135, 424)), ((1, 51), (1000000, 462))]
def xI : List ((Nat × Nat) × (Nat × Nat × Nat)) := [((10, 135), (3, 0, 14)), ((4, 3), (5, 1, 17)), ((4, 11), (3, 2, 22)), ((2, 3), (5, 1, 25)), ((2, 52), (2, 3, 26)), ((2, 55), (0, 4, 30)), ((4, 25), (3, 5, 99)), ((0, 3), (5, 1, 102)), ((0, 21), (3, 2, 105)), ((4, 32), (4, 6, 115)), ((1, 3), (5, 1, 118)), ((4, 39), (4, 7, 145)), ((3, 3), (5, 1, 148)), ((3, 11), (3, 2, 150)), ((10, 103), (2, 8, 202)), ((4, 52), (2, 9, 206)), ((4, 56), (2, 10, 210)), ((2, 67), (2, 11, 214)), ((4, 60), (0, 12, 218)), ((4, 63), (2, 13, 221)), ((4, 67), (2, 14, 225)), ((4, 71), (2, 15, 229)), ((4, 75), (2, 16, 233)), ((0, 22), (2, 17, 237)), ((0, 25), (2, 18, 241)), ((2, 61), (6, 0, 245)), ((4, 79), (2, 19, 248)), ((10, 106), (2, 20, 252)), ((10, 147), (2, 21, 256)), ((4, 224), (2, 22, 260)), ((10, 139), (0, 23, 264)), ((10, 80), (0, 24, 269)), ((10, 136), (0, 25, 273)), ((10, 51), (0, 26, 276)), ((10, 16), (2, 27, 279)), ((4, 228), (2, 28, 283)), ((10, 35), (2, 29, 287)), ((10, 70), (2, 30, 291)), ((4, 121), (2, 31, 295)), ((10, 73), (0, 32, 299)), ((10, 54), (2, 33, 302)), ((4, 106), (2, 11, 306)), ((10, 64), (2, 34, 307)), ((10, 67), (2, 35, 311)), ((4, 234), (2, 36, 315)), ((10, 76), (0, 37, 319)), ((10, 19), (2, 38, 322)), ((4, 89), (0, 39, 326)), ((4, 112), (0, 40, 329)), ((10, 23), (0, 41, 332)), ((10, 29), (2, 42, 335)), ((10, 32), (0, 43, 339)), ((10, 38), (0, 44, 342)), ((10, 10), (2, 45, 345)), ((10, 42), (2, 46, 349)), ((4, 83), (2, 47, 353)), ((4, 86), (0, 48, 357)), ((4, 100), (0, 49, 360)), ((10, 45), (2, 50, 363)), ((10, 48), (2, 51, 367)), ((4, 237), (0, 52, 371)), ((4, 240), (2, 53, 374)), ((10, 57), (2, 54, 378)), ((4, 243), (0, 55, 382)), ((6, 48), (0, 56, 385)), ((6, 9), (2, 11, 388)), ((6, 19), (1, 40, 389)), ((6, 26), (1, 52, 390)), ((6, 54), (0, 57, 391)), ((6, 30), (2, 13, 394)), ((6, 33), (2, 47, 395)), ((6, 39), (1, 49, 396)), ((6, 58), (0, 58, 397)), ((10, 83), (0, 59, 400)), ((10, 60), (2, 60, 403)), ((4, 92), (0, 61, 407)), ((4, 246), (0, 62, 410)), ((4, 249), (0, 63, 413)), ((4, 255), (0, 64, 416)), ((4, 134), (0, 65, 419)), ((4, 176), (0, 66, 425)), ((6, 61), (0, 67, 428)), ((6, 64), (1, 68, 431)), ((6, 67), (0, 69, 434)), ((10, 87), (2, 70, 437)), ((4, 147), (2, 71, 441)), ((1, 34), (2, 11, 445)), ((1, 40), (2, 14, 446)), ((1, 44), (2, 72, 447)), ((1, 48), (2, 73, 451)), ((1, 66), (2, 13, 455)), ((1, 69), (2, 47, 456)), ((1, 75), (1, 49, 457)), ((1, 81), (2, 74, 458)), ((1, 52), (2, 75, 463)), ((1, 92), (0, 4, 467)), ((1, 98), (1, 64, 468)), ((1, 84), (1, 62, 469)), ((1, 101), (1, 68, 470)), ((1, 59), (1, 40, 471)), ((1, 63), (2, 76, 472)), ((1, 87), (0, 77, 476)), ((10, 90), (2, 78, 479)), ((4, 155), (2, 79, 483)), ((10, 131), (0, 80, 487)), ((10, 143), (0, 81, 495)), ((10, 109), (2, 82, 498)), ((4, 103), (2, 83, 502)), ((2, 75), (1, 49, 506)), ((10, 113), (2, 84, 507)), ((4, 109), (0, 85, 511)), ((4, 252), (0, 68, 514)), ((10, 116), (2, 86, 515)), ((4, 124), (2, 87, 519)), ((2, 82), (2, 31, 523)), ((2, 85), (2, 88, 524)), ((4, 127), (0, 89, 528)), ((4, 130), (2, 90, 531)), ((2, 71), (2, 91, 535)), ((2, 79), (1, 40, 539)), ((10, 119), (2, 92, 540)), ((10, 122), (2, 93, 544)), ((4, 139), (2, 91, 548)), ((10, 125), (2, 94, 549)), ((4, 161), (2, 95, 553)), ((4, 164), (2, 96, 557)), ((4, 167), (2, 97, 561)), ((4, 182), (2, 74, 565)), ((4, 185), (0, 98, 566)), ((5, 21), (2, 11, 569)), ((5, 44), (2, 95, 570)), ((5, 48), (0, 99, 571)), ((5, 15), (2, 13, 574)), ((5, 52), (2, 74, 575)), ((4, 195), (2, 100, 576)), ((4, 207), (2, 101, 580)), ((4, 151), (2, 102, 584)), ((1, 104), (2, 103, 588)), ((1, 108), (0, 67, 592)), ((1, 113), (1, 52, 593)), ((1, 119), (2, 101, 594)), ((10, 150), (0, 104, 595)), ((10, 128), (2, 105, 598)), ((4, 142), (0, 106, 602)), ((5, 9), (0, 107, 605)), ((5, 36), (0, 108, 608))]
def xW : List (Nat × Nat × Nat × Nat) := [(4, 32, 6, 115), (4, 39, 7, 145), (6, 19, 40, 389), (6, 26, 52, 390), (6, 39, 49, 396), (6, 64, 68, 431), (1, 75, 49, 457), (1, 98, 64, 468), (1, 84, 62, 469), (1, 101, 68, 470), (1, 59, 40, 471), (2, 75, 49, 506), (2, 79, 40, 539), (1, 113, 52, 593)]
/-- places in lw_tbl: initialized, static or instanceMethod, selects -/
def xw : List (Nat × Nat × Nat) := [(11, 25, 0), (10, 28, 0), (12, 33, 0), (12, 37, 38), (13, 41, 0), (14, 110, 0), (15, 126, 0), (16, 156, 0), (11, 213, 214), (11, 218, 0), (12, 221, 222), (12, 225, 226), (11, 229, 0), (12, 232, 233), (12, 236, 237), (12, 240, 241), (14, 244, 245), (14, 249, 1), (12, 252, 253), (12, 259, 260), (11, 263, 264), (11, 267, 268), (14, 271, 272), (10, 275, 0), (10, 280, 0), (10, 284, 0), (10, 287, 0), (11, 290, 291), (12, 294, 295), (11, 298, 299), (11, 302, 303), (12, 306, 307), (10, 310, 0), (11, 313, 314), (11, 318, 319), (11, 322, 323), (12, 326, 327), (10, 330, 0), (11, 333, 334), (11, 337, 0), (11, 340, 0), (10, 343, 0), (11, 346, 347), (10, 350, 0), (10, 353, 0), (11, 356, 357), (11, 360, 361), (12, 364, 365), (11, 368, 0), (11, 371, 0), (11, 374, 375), (11, 378, 379), (11, 382, 0), (12, 385, 386), (11, 389, 390), (17, 393, 0), (17, 396, 0), (17, 402, 0), (17, 408, 0), (10, 411, 0), (11, 414, 415), (11, 418, 0), (11, 421, 0), (11, 424, 0), (11, 427, 0), (18, 430, 0), (17, 436, 0), (17, 439, 0), (11, 442, 0), (17, 445, 0), (11, 448, 449), (15, 452, 453), (15, 459, 2), (15, 463, 3), (12, 469, 470), (15, 475, 4), (15, 484, 5), (19, 487, 0), (11, 490, 491), (12, 494, 495), (10, 498, 0), (10, 506, 0), (11, 509, 510), (12, 513, 514), (11, 518, 519), (11, 522, 0), (11, 526, 527), (12, 530, 531), (12, 535, 536), (11, 539, 0), (12, 542, 543), (12, 546, 547), (11, 551, 552), (11, 555, 556), (11, 560, 561), (12, 564, 565), (11, 569, 6), (11, 573, 7), (21, 577, 0), (21, 582, 0), (11, 588, 8), (12, 591, 592), (15, 595, 596), (15, 600, 9), (10, 606, 0), (11, 609, 610), (21, 613, 0), (21, 616, 0), (19, 619, 0)]
def xinst : List Nat := [98, 114, 21, 144, 13]
def xini : List Nat := [4, 5, 2, 6, 1]
