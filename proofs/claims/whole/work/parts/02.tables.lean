/-! the program's tables: classes, fields, methods; links by their places among the tables' words -/
def xC : Nat → String := fun k => match k with
  | 0 => "BusRack$History"
  | 1 => "BusRack$Layout"
  | 2 => "BusRack$Rack"
  | 3 => "BusRack$Reader"
  | 4 => "BusRack"
  | 5 => "BusRackModel"
  | 6 => "BusRack$Numbers"
  | 7 => "BusRack$Room"
  | 8 => "java/lang/Integer"
  | 9 => "java/lang/Math"
  | 10 => "java/util/Arrays"
  | 11 => "BusRackLaw"
  | _ => "java/lang/Object"
def xT : Nat → u_T := fun c => match c with
  | 0 => fun k => match k with
    | 0 => ("BusRack$History", "states", "[LBusRack$Rack;", true)
    | _ => ("BusRack$History", "count", "I", false)
  | 1 => fun k => match k with
    | 0 => ("BusRack$Layout", "needs", "[I", true)
    | 1 => ("BusRack$Layout", "alignments", "[I", true)
    | 2 => ("BusRack$Layout", "itemSizes", "[I", true)
    | 3 => ("BusRack$Layout", "itemAlignments", "[I", true)
    | 4 => ("BusRack$Layout", "starts", "[I", true)
    | 5 => ("BusRack$Layout", "waitingBuses", "[I", true)
    | _ => ("BusRack$Layout", "waiting", "I", false)
  | 2 => fun k => match k with
    | 0 => ("BusRack$Rack", "kinds", "[I", true)
    | 1 => ("BusRack$Rack", "buses", "[I", true)
    | 2 => ("BusRack$Rack", "slots", "[I", true)
    | 3 => ("BusRack$Rack", "held", "[I", true)
    | 4 => ("BusRack$Rack", "regionSpaces", "[I", true)
    | 5 => ("BusRack$Rack", "regionSizes", "[I", true)
    | 6 => ("BusRack$Rack", "regionBases", "[I", true)
    | 7 => ("BusRack$Rack", "reserves", "[I", true)
    | 8 => ("BusRack$Rack", "windowBases", "[I", true)
    | 9 => ("BusRack$Rack", "windowSizes", "[I", true)
    | 10 => ("BusRack$Rack", "firstNumbers", "[I", true)
    | 11 => ("BusRack$Rack", "lastNumbers", "[I", true)
    | _ => ("BusRack$Rack", "gap", "I", false)
  | 3 => fun k => match k with
    | 0 => ("BusRack$Reader", "rack", "LBusRack$Rack;", true)
    | 1 => ("BusRack$Reader", "count", "I", false)
    | 2 => ("BusRack$Reader", "due", "I", false)
    | 3 => ("BusRack$Reader", "level", "I", false)
    | 4 => ("BusRack$Reader", "openBuses", "[I", true)
    | 5 => ("BusRack$Reader", "lastSlots", "[I", true)
    | 6 => ("BusRack$Reader", "regions", "I", false)
    | _ => ("BusRack$Reader", "space", "I", false)
  | 4 => fun k => match k with
    | 0 => ("BusRack", "rack", "LBusRack$Rack;", true)
    | 1 => ("BusRack", "snapshot", "LBusRack$Rack;", true)
    | 2 => ("BusRack", "hasSnapshot", "Z", false)
    | 3 => ("BusRack", "history", "LBusRack$History;", true)
    | 4 => ("BusRack", "layout", "LBusRack$Layout;", true)
    | 5 => ("BusRack", "reader", "LBusRack$Reader;", true)
    | 6 => ("BusRack", "text", "[C", true)
    | _ => ("BusRack", "textLength", "I", false)
  | 5 => fun k => match k with
    | 0 => ("BusRackModel", "s", "[I", true)
    | 1 => ("BusRackModel", "states", "I", false)
    | 2 => ("BusRackModel", "isSaved", "Z", false)
    | 3 => ("BusRackModel", "text", "[I", true)
    | 4 => ("BusRackModel", "typed", "I", false)
    | 5 => ("BusRackModel", "need", "[I", true)
    | 6 => ("BusRackModel", "alignment", "[I", true)
    | 7 => ("BusRackModel", "items", "I", false)
    | 8 => ("BusRackModel", "itemDevice", "[I", true)
    | 9 => ("BusRackModel", "itemRegion", "[I", true)
    | 10 => ("BusRackModel", "itemSize", "[I", true)
    | 11 => ("BusRackModel", "itemAlignment", "[I", true)
    | 12 => ("BusRackModel", "free", "[I", true)
    | 13 => ("BusRackModel", "gained", "I", false)
    | 14 => ("BusRackModel", "going", "[Z", true)
    | 15 => ("BusRackModel", "devicesRead", "I", false)
    | 16 => ("BusRackModel", "level", "I", false)
    | 17 => ("BusRackModel", "openBus", "[I", true)
    | 18 => ("BusRackModel", "lastSlot", "[I", true)
    | _ => ("BusRackModel", "regionsRead", "I", false)
  | _ => fun _ => ("", "", "", false)
def xt : Nat → Nat → FieldType := fun c => match c with
  | 0 => fun k => match k with
    | 0 => .array (.object "BusRack$Rack")
    | _ => .int
  | 1 => fun k => match k with
    | 0 => .array .int
    | 1 => .array .int
    | 2 => .array .int
    | 3 => .array .int
    | 4 => .array .int
    | 5 => .array .int
    | _ => .int
  | 2 => fun k => match k with
    | 0 => .array .int
    | 1 => .array .int
    | 2 => .array .int
    | 3 => .array .int
    | 4 => .array .int
    | 5 => .array .int
    | 6 => .array .int
    | 7 => .array .int
    | 8 => .array .int
    | 9 => .array .int
    | 10 => .array .int
    | 11 => .array .int
    | _ => .int
  | 3 => fun k => match k with
    | 0 => .object "BusRack$Rack"
    | 1 => .int
    | 2 => .int
    | 3 => .int
    | 4 => .array .int
    | 5 => .array .int
    | 6 => .int
    | _ => .int
  | 4 => fun k => match k with
    | 0 => .object "BusRack$Rack"
    | 1 => .object "BusRack$Rack"
    | 2 => .boolean
    | 3 => .object "BusRack$History"
    | 4 => .object "BusRack$Layout"
    | 5 => .object "BusRack$Reader"
    | 6 => .array .char
    | _ => .int
  | 5 => fun k => match k with
    | 0 => .array .int
    | 1 => .int
    | 2 => .boolean
    | 3 => .array .int
    | 4 => .int
    | 5 => .array .int
    | 6 => .array .int
    | 7 => .int
    | 8 => .array .int
    | 9 => .array .int
    | 10 => .array .int
    | 11 => .array .int
    | 12 => .array .int
    | 13 => .int
    | 14 => .array .boolean
    | 15 => .int
    | 16 => .int
    | 17 => .array .int
    | 18 => .array .int
    | _ => .int
  | _ => fun _ => .int
def xN : Nat → Nat := fun c => match c with
  | 0 => 2
  | 1 => 7
  | 2 => 13
  | 3 => 8
  | 4 => 8
  | 5 => 20
  | _ => 0
def xcl : List vw_C := [(xC 0, xT 0, xN 0), (xC 1, xT 1, xN 1), (xC 2, xT 2, xN 2), (xC 3, xT 3, xN 3), (xC 4, xT 4, xN 4), (xC 5, xT 5, xN 5)]
def xlay : List Nat := [109, 111, 129, 131, 133, 135, 137, 139, 141, 70, 72, 74, 76, 78, 80, 82, 84, 86, 88, 90, 92, 94, 162, 164, 166, 168, 170, 172, 174, 176, 187, 189, 191, 193, 195, 197, 199, 201, 677, 679, 681, 683, 685, 687, 689, 691, 693, 695, 697, 699, 701, 703, 705, 707, 709, 711, 713, 715]
def xM : List (MethodName × ByteArray × Nat × Option FieldType × Nat × Nat) := [
  (⟨"BusRack", "<init>", "()V"⟩, prog_1_method_1_code, 1, none, 4, 0),
  (⟨"java/lang/Object", "<init>", "()V"⟩, object_method_1_code, 1, none, 12, 0),
  (⟨"BusRack$Rack", "<init>", "()V"⟩, prog_5_method_1_code, 1, none, 2, 0),
  (⟨"BusRack$Rack", "empty", "()V"⟩, prog_5_method_2_code, 1, none, 2, 0),
  (⟨"java/util/Arrays", "fill", "([II)V"⟩, prog_13_method_103_code, 4, none, 10, 2),
  (⟨"BusRack$History", "<init>", "()V"⟩, prog_2_method_1_code, 2, none, 0, 0),
  (⟨"BusRack$Layout", "<init>", "()V"⟩, prog_3_method_1_code, 1, none, 1, 0),
  (⟨"BusRack$Reader", "<init>", "()V"⟩, prog_6_method_1_code, 1, none, 3, 0),
  (⟨"BusRack", "addCard", "(II)I"⟩, prog_1_method_2_code, 3, some .int, 4, 2),
  (⟨"BusRack", "addDevice", "(III)I"⟩, prog_1_method_4_code, 5, some .int, 4, 3),
  (⟨"BusRack$Rack", "isBus", "(I)Z"⟩, prog_5_method_8_code, 2, some .boolean, 2, 1),
  (⟨"BusRack$Rack", "isBridge", "(I)Z"⟩, prog_5_method_6_code, 2, some .boolean, 2, 1),
  (⟨"BusRack", "isSlot", "(I)Z"⟩, prog_1_method_38_code, 1, some .boolean, 4, 1),
  (⟨"BusRack$Rack", "deviceAt", "(II)I"⟩, prog_5_method_9_code, 4, some .int, 2, 2),
  (⟨"BusRack$Rack", "depthOfBus", "(I)I"⟩, prog_5_method_16_code, 4, some .int, 2, 1),
  (⟨"BusRack$Rack", "leastFreeNumber", "()I"⟩, prog_5_method_10_code, 2, some .int, 2, 0),
  (⟨"BusRack$History", "record", "(LBusRack$Rack;)V"⟩, prog_2_method_2_code, 3, none, 0, 1),
  (⟨"BusRack$History", "dropOldest", "()V"⟩, prog_2_method_3_code, 3, none, 0, 0),
  (⟨"BusRack$Rack", "copyFrom", "(LBusRack$Rack;)V"⟩, prog_5_method_3_code, 2, none, 2, 1),
  (⟨"BusRack$Rack", "put", "(IIII)V"⟩, prog_5_method_11_code, 5, none, 2, 4),
  (⟨"BusRack", "addBridge", "(II)I"⟩, prog_1_method_3_code, 3, some .int, 4, 2),
  (⟨"BusRack", "setRegion", "(IIII)I"⟩, prog_1_method_5_code, 6, some .int, 4, 4),
  (⟨"BusRack$Rack", "isCard", "(I)Z"⟩, prog_5_method_5_code, 2, some .boolean, 2, 1),
  (⟨"BusRack", "isRegion", "(I)Z"⟩, prog_1_method_39_code, 1, some .boolean, 4, 1),
  (⟨"BusRack", "isSpace", "(I)Z"⟩, prog_1_method_40_code, 1, some .boolean, 4, 1),
  (⟨"BusRack", "isSizeOf", "(II)Z"⟩, prog_1_method_41_code, 2, some .boolean, 4, 2),
  (⟨"BusRack", "grainOf", "(I)I"⟩, prog_1_method_44_code, 1, some .int, 4, 1),
  (⟨"BusRack", "largestSizeOf", "(I)I"⟩, prog_1_method_46_code, 1, some .int, 4, 1),
  (⟨"BusRack", "largestExponentOf", "(I)I"⟩, prog_1_method_45_code, 1, some .int, 4, 1),
  (⟨"java/lang/Integer", "bitCount", "(I)I"⟩, prog_10_method_49_code, 1, some .int, 8, 1),
  (⟨"BusRack", "regionIndex", "(II)I"⟩, prog_1_method_47_code, 2, some .int, 4, 2),
  (⟨"BusRack$Rack", "changeRegion", "(IIII)V"⟩, prog_5_method_13_code, 6, none, 2, 4),
  (⟨"BusRack", "setReserve", "(III)I"⟩, prog_1_method_6_code, 6, some .int, 4, 3),
  (⟨"BusRack", "isReserveOf", "(II)Z"⟩, prog_1_method_42_code, 3, some .boolean, 4, 2),
  (⟨"BusRack", "roundUp", "(II)I"⟩, prog_1_method_50_code, 2, some .int, 4, 2),
  (⟨"BusRack", "windowIndex", "(II)I"⟩, prog_1_method_48_code, 2, some .int, 4, 2),
  (⟨"BusRack", "setGap", "(I)I"⟩, prog_1_method_7_code, 3, some .int, 4, 1),
  (⟨"BusRack", "pull", "(I)I"⟩, prog_1_method_8_code, 4, some .int, 4, 1),
  (⟨"BusRack$Rack", "isDevice", "(I)Z"⟩, prog_5_method_4_code, 2, some .boolean, 2, 1),
  (⟨"BusRack$Rack", "familyOf", "(I)I"⟩, prog_5_method_18_code, 4, some .int, 2, 1),
  (⟨"BusRack$Rack", "isWithin", "(II)Z"⟩, prog_5_method_17_code, 5, some .boolean, 2, 2),
  (⟨"BusRack", "isIn", "(II)Z"⟩, prog_1_method_49_code, 2, some .boolean, 4, 2),
  (⟨"BusRack$Rack", "remove", "(I)V"⟩, prog_5_method_12_code, 3, none, 2, 1),
  (⟨"BusRack$Rack", "release", "(I)I"⟩, prog_5_method_15_code, 5, some .int, 2, 1),
  (⟨"BusRack", "enumerate", "()I"⟩, prog_1_method_9_code, 2, some .int, 4, 0),
  (⟨"BusRack$Numbers", "numberAll", "(LBusRack$Rack;)V"⟩, prog_4_method_2_code, 1, none, 6, 1),
  (⟨"BusRack$Numbers", "numberBus", "(LBusRack$Rack;III)I"⟩, prog_4_method_3_code, 8, some .int, 6, 4),
  (⟨"java/lang/Math", "min", "(II)I"⟩, prog_11_method_69_code, 2, some .int, 9, 2),
  (⟨"BusRack$Layout", "measure", "(LBusRack$Rack;I)V"⟩, prog_3_method_2_code, 5, none, 1, 2),
  (⟨"BusRack$Layout", "measureBridge", "(LBusRack$Rack;II)V"⟩, prog_3_method_3_code, 4, none, 1, 3),
  (⟨"BusRack$Layout", "listItems", "(LBusRack$Rack;II)V"⟩, prog_3_method_4_code, 7, none, 1, 3),
  (⟨"BusRack$Rack", "isNumbered", "(I)Z"⟩, prog_5_method_7_code, 2, some .boolean, 2, 1),
  (⟨"BusRack$Layout", "pack", "(III)I"⟩, prog_3_method_6_code, 10, some .int, 1, 3),
  (⟨"BusRack$Layout", "greatestAlignment", "(I)I"⟩, prog_3_method_5_code, 4, some .int, 1, 1),
  (⟨"java/lang/Math", "max", "(II)I"⟩, prog_11_method_65_code, 2, some .int, 9, 2),
  (⟨"BusRack$Layout", "place", "(LBusRack$Rack;II)I"⟩, prog_3_method_7_code, 6, some .int, 1, 3),
  (⟨"BusRack$Layout", "placeItems", "(LBusRack$Rack;II)I"⟩, prog_3_method_8_code, 7, some .int, 1, 3),
  (⟨"BusRack$Room", "startOf", "(LBusRack$Rack;II)I"⟩, prog_7_method_2_code, 3, some .int, 7, 3),
  (⟨"BusRack", "addressesOf", "(I)I"⟩, prog_1_method_43_code, 1, some .int, 4, 1),
  (⟨"BusRack$Rack", "openWindow", "(IIII)V"⟩, prog_5_method_14_code, 5, none, 2, 4),
  (⟨"BusRack$Rack", "countUnplaced", "()I"⟩, prog_5_method_21_code, 3, some .int, 2, 0),
  (⟨"BusRack", "attach", "(I)I"⟩, prog_1_method_10_code, 2, some .int, 4, 1),
  (⟨"BusRack$Rack", "numberOf", "(I)I"⟩, prog_5_method_22_code, 2, some .int, 2, 1),
  (⟨"BusRack", "attachCard", "(I)I"⟩, prog_1_method_11_code, 7, some .int, 4, 1),
  (⟨"BusRack$Room", "fitIn", "(LBusRack$Rack;IIII)I"⟩, prog_7_method_7_code, 9, some .int, 7, 5),
  (⟨"BusRack$Room", "extentOf", "(LBusRack$Rack;II)I"⟩, prog_7_method_3_code, 3, some .int, 7, 3),
  (⟨"BusRack$Room", "endOfCover", "(LBusRack$Rack;IIII)I"⟩, prog_7_method_8_code, 8, some .int, 7, 5),
  (⟨"BusRack$Room", "coverStart", "(LBusRack$Rack;III)I"⟩, prog_7_method_4_code, 6, some .int, 7, 4),
  (⟨"BusRack$Room", "coverSize", "(LBusRack$Rack;III)I"⟩, prog_7_method_5_code, 5, some .int, 7, 4),
  (⟨"BusRack", "attachBridge", "(I)I"⟩, prog_1_method_12_code, 4, some .int, 4, 1),
  (⟨"BusRack$Numbers", "leastFor", "(LBusRack$Rack;I)I"⟩, prog_4_method_4_code, 5, some .int, 6, 2),
  (⟨"BusRack$Numbers", "isTaken", "(LBusRack$Rack;II)Z"⟩, prog_4_method_5_code, 5, some .boolean, 6, 3),
  (⟨"BusRack", "attachWindow", "(II)I"⟩, prog_1_method_13_code, 5, some .int, 4, 2),
  (⟨"BusRack", "detach", "(I)I"⟩, prog_1_method_14_code, 5, some .int, 4, 1),
  (⟨"BusRack", "append", "(I)I"⟩, prog_1_method_15_code, 2, some .int, 4, 1),
  (⟨"BusRack", "clearText", "()I"⟩, prog_1_method_16_code, 2, some .int, 4, 0),
  (⟨"BusRack", "fault", "()I"⟩, prog_1_method_17_code, 1, some .int, 4, 0),
  (⟨"BusRack$Reader", "read", "([CI)I"⟩, prog_6_method_2_code, 4, some .int, 3, 2),
  (⟨"BusRack$Reader", "beginBus", "(I)V"⟩, prog_6_method_3_code, 2, none, 3, 1),
  (⟨"BusRack$Reader", "takes", "(C)Z"⟩, prog_6_method_5_code, 2, some .boolean, 3, 1),
  (⟨"BusRack$Reader", "takesClosing", "(C)Z"⟩, prog_6_method_13_code, 2, some .boolean, 3, 1),
  (⟨"BusRack$Reader", "takesSlot", "(C)Z"⟩, prog_6_method_6_code, 3, some .boolean, 3, 1),
  (⟨"BusRack$Reader", "takesKind", "(C)Z"⟩, prog_6_method_7_code, 2, some .boolean, 3, 1),
  (⟨"BusRack$Reader", "addToRack", "(I)V"⟩, prog_6_method_8_code, 2, none, 3, 1),
  (⟨"BusRack$Reader", "takesOpening", "(C)Z"⟩, prog_6_method_9_code, 2, some .boolean, 3, 1),
  (⟨"BusRack$Reader", "takesSpace", "(C)Z"⟩, prog_6_method_10_code, 2, some .boolean, 3, 1),
  (⟨"BusRack$Reader", "takesEnd", "(C)Z"⟩, prog_6_method_12_code, 2, some .boolean, 3, 1),
  (⟨"BusRack$Reader", "takesExponent", "(C)Z"⟩, prog_6_method_11_code, 3, some .boolean, 3, 1),
  (⟨"BusRack$Reader", "isComplete", "()Z"⟩, prog_6_method_4_code, 1, some .boolean, 3, 0),
  (⟨"BusRack", "load", "()I"⟩, prog_1_method_18_code, 3, some .int, 4, 0),
  (⟨"BusRack$Rack", "countDevices", "()I"⟩, prog_5_method_20_code, 1, some .int, 2, 0),
  (⟨"BusRack$Rack", "maskOf", "(I)I"⟩, prog_5_method_19_code, 4, some .int, 2, 1),
  (⟨"BusRack", "undo", "()I"⟩, prog_1_method_19_code, 1, some .int, 4, 0),
  (⟨"BusRack$History", "takeLatestInto", "(LBusRack$Rack;)I"⟩, prog_2_method_4_code, 3, some .int, 0, 1),
  (⟨"BusRack", "save", "()I"⟩, prog_1_method_20_code, 1, some .int, 4, 0),
  (⟨"BusRack", "restore", "()I"⟩, prog_1_method_21_code, 1, some .int, 4, 0),
  (⟨"BusRack", "devices", "()I"⟩, prog_1_method_22_code, 1, some .int, 4, 0),
  (⟨"BusRack", "bridges", "()I"⟩, prog_1_method_23_code, 1, some .int, 4, 0),
  (⟨"BusRack", "deviceIn", "(II)I"⟩, prog_1_method_24_code, 3, some .int, 4, 2),
  (⟨"BusRack", "depth", "(I)I"⟩, prog_1_method_25_code, 2, some .int, 4, 1),
  (⟨"BusRack", "size", "(II)I"⟩, prog_1_method_26_code, 3, some .int, 4, 2),
  (⟨"BusRack", "base", "(II)I"⟩, prog_1_method_27_code, 3, some .int, 4, 2),
  (⟨"BusRack", "firstNumber", "(I)I"⟩, prog_1_method_28_code, 2, some .int, 4, 1),
  (⟨"BusRack", "lastNumber", "(I)I"⟩, prog_1_method_29_code, 2, some .int, 4, 1),
  (⟨"BusRack", "windowBase", "(II)I"⟩, prog_1_method_30_code, 3, some .int, 4, 2),
  (⟨"BusRack", "windowSize", "(II)I"⟩, prog_1_method_31_code, 3, some .int, 4, 2),
  (⟨"BusRack", "need", "(II)I"⟩, prog_1_method_32_code, 3, some .int, 4, 2),
  (⟨"BusRack", "unplaced", "()I"⟩, prog_1_method_33_code, 1, some .int, 4, 0),
  (⟨"BusRack", "answer", "(II)I"⟩, prog_1_method_34_code, 3, some .int, 4, 2),
  (⟨"BusRack$Rack", "busWithNumber", "(I)I"⟩, prog_5_method_23_code, 3, some .int, 2, 1),
  (⟨"BusRack", "find", "(II)I"⟩, prog_1_method_35_code, 3, some .int, 4, 2),
  (⟨"BusRack$Rack", "regionCovering", "(II)I"⟩, prog_5_method_24_code, 5, some .int, 2, 2),
  (⟨"BusRack", "freeRoom", "(II)I"⟩, prog_1_method_36_code, 3, some .int, 4, 2),
  (⟨"BusRack$Room", "countFree", "(LBusRack$Rack;II)I"⟩, prog_7_method_6_code, 5, some .int, 7, 3),
  (⟨"BusRack", "firstFit", "(III)I"⟩, prog_1_method_37_code, 4, some .int, 4, 3),
  (⟨"BusRackModel", "<init>", "()V"⟩, prog_9_method_1_code, 1, none, 5, 0),
  (⟨"BusRackModel", "addCard", "(II)I"⟩, prog_9_method_25_code, 3, some .int, 5, 2),
  (⟨"BusRackModel", "adds", "(III)I"⟩, prog_9_method_24_code, 5, some .int, 5, 3),
  (⟨"BusRackModel", "isBus", "(I)Z"⟩, prog_9_method_13_code, 2, some .boolean, 5, 1),
  (⟨"BusRackModel", "isBridge", "(I)Z"⟩, prog_9_method_12_code, 2, some .boolean, 5, 1),
  (⟨"BusRackModel", "isDevice", "(I)Z"⟩, prog_9_method_10_code, 2, some .boolean, 5, 1),
  (⟨"BusRackModel", "in", "(III)Z"⟩, prog_9_method_3_code, 3, some .boolean, 5, 3),
  (⟨"BusRackModel", "at", "(I)I"⟩, prog_9_method_8_code, 1, some .int, 5, 1),
  (⟨"BusRackModel", "isSlot", "(I)Z"⟩, prog_9_method_14_code, 1, some .boolean, 5, 1),
  (⟨"BusRackModel", "inSlot", "(II)I"⟩, prog_9_method_17_code, 5, some .int, 5, 2),
  (⟨"BusRackModel", "depthOf", "(I)I"⟩, prog_9_method_18_code, 4, some .int, 5, 1),
  (⟨"BusRackModel", "many", "()I"⟩, prog_9_method_20_code, 3, some .int, 5, 0),
  (⟨"BusRackModel", "records", "()V"⟩, prog_9_method_22_code, 2, none, 5, 0),
  (⟨"BusRackModel", "copies", "(II)V"⟩, prog_9_method_21_code, 4, none, 5, 2),
  (⟨"BusRackModel", "writes", "(IIIII)V"⟩, prog_9_method_23_code, 8, none, 5, 5),
  (⟨"BusRackModel", "addBridge", "(II)I"⟩, prog_9_method_26_code, 3, some .int, 5, 2),
  (⟨"BusRackModel", "setRegion", "(IIII)I"⟩, prog_9_method_28_code, 7, some .int, 5, 4),
  (⟨"BusRackModel", "isRegion", "(II)Z"⟩, prog_9_method_27_code, 3, some .boolean, 5, 2),
  (⟨"BusRackModel", "isCard", "(I)Z"⟩, prog_9_method_11_code, 2, some .boolean, 5, 1),
  (⟨"BusRackModel", "isSpace", "(I)Z"⟩, prog_9_method_4_code, 1, some .boolean, 5, 1),
  (⟨"BusRackModel", "isSize", "(II)Z"⟩, prog_9_method_7_code, 4, some .boolean, 5, 2),
  (⟨"BusRackModel", "grain", "(I)I"⟩, prog_9_method_5_code, 1, some .int, 5, 1),
  (⟨"BusRackModel", "regionAt", "(II)I"⟩, prog_9_method_9_code, 2, some .int, 5, 2),
  (⟨"BusRackModel", "setReserve", "(III)I"⟩, prog_9_method_29_code, 5, some .int, 5, 3),
  (⟨"BusRackModel", "setGap", "(I)I"⟩, prog_9_method_30_code, 3, some .int, 5, 1),
  (⟨"BusRackModel", "pull", "(I)I"⟩, prog_9_method_31_code, 4, some .int, 5, 1),
  (⟨"BusRackModel", "isBelow", "(II)Z"⟩, prog_9_method_19_code, 5, some .boolean, 5, 2),
  (⟨"BusRackModel", "enumerate", "()I"⟩, prog_9_method_40_code, 2, some .int, 5, 0),
  (⟨"BusRackModel", "takesAway", "(I)V"⟩, prog_9_method_38_code, 4, none, 5, 1),
  (⟨"BusRackModel", "numbers", "()V"⟩, prog_9_method_39_code, 6, none, 5, 0),
  (⟨"BusRackModel", "reckons", "()V"⟩, prog_9_method_35_code, 7, none, 5, 0),
  (⟨"BusRackModel", "lists", "(II)V"⟩, prog_9_method_33_code, 7, none, 5, 2),
  (⟨"BusRackModel", "puts", "(IIII)V"⟩, prog_9_method_32_code, 6, none, 5, 4),
  (⟨"BusRackModel", "isNumbered", "(I)Z"⟩, prog_9_method_15_code, 2, some .boolean, 5, 1),
  (⟨"BusRackModel", "aligned", "(II)I"⟩, prog_9_method_34_code, 2, some .int, 5, 2),
  (⟨"BusRackModel", "addresses", "(I)I"⟩, prog_9_method_6_code, 1, some .int, 5, 1),
  (⟨"BusRackModel", "places", "(IIII)V"⟩, prog_9_method_36_code, 9, none, 5, 4),
  (⟨"BusRackModel", "placesBelow", "(II)V"⟩, prog_9_method_37_code, 6, none, 5, 2),
  (⟨"BusRackModel", "hasWindow", "(II)Z"⟩, prog_9_method_16_code, 3, some .boolean, 5, 2),
  (⟨"BusRackModel", "unplaced", "()I"⟩, prog_9_method_74_code, 4, some .int, 5, 0),
  (⟨"BusRackModel", "attach", "(I)I"⟩, prog_9_method_48_code, 3, some .int, 5, 1),
  (⟨"BusRackModel", "numberOf", "(I)I"⟩, prog_9_method_44_code, 2, some .int, 5, 1),
  (⟨"BusRackModel", "freeNumber", "(I)I"⟩, prog_9_method_45_code, 8, some .int, 5, 1),
  (⟨"BusRackModel", "attachesCard", "(I)V"⟩, prog_9_method_46_code, 4, none, 5, 1),
  (⟨"BusRackModel", "fits", "(IIII)I"⟩, prog_9_method_43_code, 8, some .int, 5, 4),
  (⟨"BusRackModel", "looks", "(II)V"⟩, prog_9_method_41_code, 8, none, 5, 2),
  (⟨"BusRackModel", "covers", "(III)V"⟩, prog_9_method_42_code, 5, none, 5, 3),
  (⟨"BusRackModel", "attachesBridge", "(II)V"⟩, prog_9_method_47_code, 6, none, 5, 2),
  (⟨"BusRackModel", "detach", "(I)I"⟩, prog_9_method_50_code, 4, some .int, 5, 1),
  (⟨"BusRackModel", "based", "()I"⟩, prog_9_method_49_code, 4, some .int, 5, 0),
  (⟨"BusRackModel", "append", "(I)I"⟩, prog_9_method_51_code, 2, some .int, 5, 1),
  (⟨"BusRackModel", "clearText", "()I"⟩, prog_9_method_52_code, 2, some .int, 5, 0),
  (⟨"BusRackModel", "fault", "()I"⟩, prog_9_method_58_code, 1, some .int, 5, 0),
  (⟨"BusRackModel", "reads", "()I"⟩, prog_9_method_57_code, 6, some .int, 5, 0),
  (⟨"BusRackModel", "readsItem", "(I)I"⟩, prog_9_method_55_code, 3, some .int, 5, 1),
  (⟨"BusRackModel", "isHere", "(III)Z"⟩, prog_9_method_53_code, 4, some .boolean, 5, 3),
  (⟨"BusRackModel", "begins", "(II)V"⟩, prog_9_method_54_code, 3, none, 5, 2),
  (⟨"BusRackModel", "readsRegion", "(I)I"⟩, prog_9_method_56_code, 4, some .int, 5, 1),
  (⟨"BusRackModel", "load", "()I"⟩, prog_9_method_59_code, 3, some .int, 5, 0),
  (⟨"BusRackModel", "undo", "()I"⟩, prog_9_method_60_code, 1, some .int, 5, 0),
  (⟨"BusRackModel", "save", "()I"⟩, prog_9_method_61_code, 1, some .int, 5, 0),
  (⟨"BusRackModel", "restore", "()I"⟩, prog_9_method_62_code, 1, some .int, 5, 0),
  (⟨"BusRackModel", "devices", "()I"⟩, prog_9_method_63_code, 3, some .int, 5, 0),
  (⟨"BusRackModel", "bridges", "()I"⟩, prog_9_method_64_code, 3, some .int, 5, 0),
  (⟨"BusRackModel", "deviceIn", "(II)I"⟩, prog_9_method_65_code, 3, some .int, 5, 2),
  (⟨"BusRackModel", "depth", "(I)I"⟩, prog_9_method_66_code, 2, some .int, 5, 1),
  (⟨"BusRackModel", "size", "(II)I"⟩, prog_9_method_67_code, 3, some .int, 5, 2),
  (⟨"BusRackModel", "base", "(II)I"⟩, prog_9_method_68_code, 3, some .int, 5, 2),
  (⟨"BusRackModel", "firstNumber", "(I)I"⟩, prog_9_method_69_code, 2, some .int, 5, 1),
  (⟨"BusRackModel", "lastNumber", "(I)I"⟩, prog_9_method_70_code, 2, some .int, 5, 1),
  (⟨"BusRackModel", "windowBase", "(II)I"⟩, prog_9_method_71_code, 3, some .int, 5, 2),
  (⟨"BusRackModel", "windowSize", "(II)I"⟩, prog_9_method_72_code, 3, some .int, 5, 2),
  (⟨"BusRackModel", "need", "(II)I"⟩, prog_9_method_73_code, 3, some .int, 5, 2),
  (⟨"BusRackModel", "answer", "(II)I"⟩, prog_9_method_75_code, 5, some .int, 5, 2),
  (⟨"BusRackModel", "find", "(II)I"⟩, prog_9_method_76_code, 8, some .int, 5, 2),
  (⟨"BusRackModel", "freeRoom", "(II)I"⟩, prog_9_method_77_code, 5, some .int, 5, 2),
  (⟨"BusRackModel", "firstFit", "(III)I"⟩, prog_9_method_78_code, 4, some .int, 5, 3),
  (⟨"BusRackLaw", "law", "([I)Z"⟩, code, 4, some .boolean, 11, 1)]
def xcode : List Nat := [17, 20, 25, 30, 33, 102, 118, 148, 208, 212, 216, 220, 223, 227, 231, 235, 239, 243, 247, 254, 258, 262, 266, 269, 272, 275, 278, 281, 284, 287, 293, 297, 302, 306, 309, 312, 316, 320, 324, 328, 333, 336, 340, 344, 349, 353, 356, 361, 365, 371, 375, 382, 387, 396, 399, 403, 407, 410, 415, 419, 423, 427, 431, 435, 438, 442, 447, 450, 456, 460, 464, 468, 473, 478, 482, 486, 490, 494, 499, 503, 507, 511, 515, 519, 524, 528, 532, 536, 543, 547, 552, 556, 561, 565, 569, 573, 577, 582, 586, 590, 594, 598, 602, 606, 610, 614, 618, 622, 626, 630, 634, 639, 643, 646, 650, 655, 722, 726, 730, 734, 738, 741, 744, 747, 751, 755, 759, 763, 767, 771, 775, 779, 783, 787, 790, 793, 796, 799, 803, 807, 811, 815, 819, 823, 827, 831, 835, 839, 843, 846, 849, 853, 857, 861, 865, 869, 873, 877, 881, 885, 889, 893, 897, 901, 905, 909, 913, 917, 921, 925, 929, 933, 937, 941, 945, 949, 953, 957, 961, 965, 969, 973, 977, 981, 985, 989, 993, 997, 1002, 1006, 1010, 1014]
def xm (k : Nat) : MethodName × ByteArray × Nat × Option FieldType × Nat × Nat := xM.getD k (⟨"", "", ""⟩, ByteArray.empty, 0, none, 0, 0)
def mY (k : Nat) : MethodName := (xm k).1
def mB (k : Nat) : ByteArray := (xm k).2.1
def mL (k : Nat) : Nat := (xm k).2.2.1
def mR (k : Nat) : Option FieldType := (xm k).2.2.2.1
def mO (k : Nat) : Nat := (xm k).2.2.2.2.1
def mP (k : Nat) : Nat := (xm k).2.2.2.2.2
def xF : List ((Nat × Nat) × (Nat × Nat × Nat)) := [((2, 9), (2, 0, 34)), ((2, 15), (2, 1, 35)), ((6, 41), (2, 1, 36)), ((4, 158), (2, 1, 37)), ((2, 18), (2, 2, 38)), ((2, 21), (2, 3, 39)), ((2, 24), (2, 4, 40)), ((7, 36), (2, 4, 41)), ((1, 72), (2, 4, 42)), ((4, 173), (2, 4, 43)), ((2, 27), (2, 5, 44)), ((1, 78), (2, 5, 45)), ((7, 45), (2, 5, 46)), ((4, 96), (2, 5, 47)), ((2, 30), (2, 6, 48)), ((7, 42), (2, 6, 49)), ((1, 116), (2, 6, 50)), ((4, 170), (2, 6, 51)), ((2, 33), (2, 7, 52)), ((1, 56), (2, 7, 53)), ((4, 115), (2, 7, 54)), ((2, 36), (2, 8, 55)), ((7, 15), (2, 8, 56)), ((4, 201), (2, 8, 57)), ((2, 39), (2, 9, 58)), ((7, 23), (2, 9, 59)), ((4, 231), (2, 9, 60)), ((2, 42), (2, 10, 61)), ((6, 25), (2, 10, 62)), ((4, 189), (2, 10, 63)), ((2, 45), (2, 11, 64)), ((6, 29), (2, 11, 65)), ((4, 192), (2, 11, 66)), ((2, 48), (2, 12, 67)), ((6, 32), (2, 12, 68)), ((4, 118), (2, 12, 69)), ((0, 11), (0, 0, 107)), ((0, 17), (0, 1, 108)), ((1, 9), (1, 0, 120)), ((4, 198), (1, 0, 121)), ((1, 15), (1, 1, 122)), ((4, 204), (1, 1, 123)), ((1, 18), (1, 2, 124)), ((1, 21), (1, 3, 125)), ((1, 24), (1, 4, 126)), ((1, 27), (1, 5, 127)), ((1, 30), (1, 6, 128)), ((3, 12), (3, 0, 152)), ((4, 217), (3, 0, 153)), ((3, 18), (3, 1, 154)), ((4, 214), (3, 1, 155)), ((3, 22), (3, 2, 156)), ((3, 25), (3, 3, 157)), ((3, 28), (3, 4, 158)), ((3, 32), (3, 5, 159)), ((3, 35), (3, 6, 160)), ((3, 38), (3, 7, 161)), ((4, 12), (4, 0, 179)), ((4, 16), (4, 1, 180)), ((4, 19), (4, 2, 181)), ((4, 26), (4, 3, 182)), ((4, 33), (4, 4, 183)), ((4, 40), (4, 5, 184)), ((4, 44), (4, 6, 185)), ((4, 48), (4, 7, 186)), ((5, 7), (5, 0, 657)), ((5, 65), (5, 1, 658)), ((5, 217), (5, 2, 659)), ((5, 13), (5, 3, 660)), ((5, 190), (5, 4, 661)), ((5, 16), (5, 5, 662)), ((5, 19), (5, 6, 663)), ((5, 120), (5, 7, 664)), ((5, 22), (5, 8, 665)), ((5, 25), (5, 9, 666)), ((5, 28), (5, 10, 667)), ((5, 31), (5, 11, 668)), ((5, 34), (5, 12, 669)), ((5, 136), (5, 13, 670)), ((5, 37), (5, 14, 671)), ((5, 193), (5, 15, 672)), ((5, 196), (5, 16, 673)), ((5, 41), (5, 17, 674)), ((5, 44), (5, 18, 675)), ((5, 199), (5, 19, 676))]
def xK : List ((Nat × Nat) × (Nat × Nat)) := [((11, 7), (4, 13)), ((4, 9), (2, 21)), ((4, 23), (0, 98)), ((0, 9), (2, 104)), ((4, 30), (1, 114)), ((4, 37), (3, 144)), ((3, 9), (2, 150)), ((11, 10), (5, 651))]
def xV : List ((Nat × Nat) × (Int32 × Nat)) := [((8, 265), (1431655765, 288)), ((8, 266), (858993459, 289)), ((8, 267), (252645135, 290)), ((1, 51), (1000000, 383))]
def xI : List ((Nat × Nat) × (Nat × Nat × Nat)) := [((11, 9), (3, 0, 15)), ((4, 3), (5, 1, 18)), ((4, 11), (3, 2, 23)), ((2, 3), (5, 1, 26)), ((2, 52), (2, 3, 27)), ((2, 55), (0, 4, 31)), ((4, 25), (3, 5, 100)), ((0, 3), (5, 1, 103)), ((0, 21), (3, 2, 106)), ((4, 32), (4, 6, 116)), ((1, 3), (5, 1, 119)), ((4, 39), (4, 7, 146)), ((3, 3), (5, 1, 149)), ((3, 11), (3, 2, 151)), ((11, 13), (2, 8, 205)), ((4, 52), (2, 9, 209)), ((4, 56), (2, 10, 213)), ((2, 67), (2, 11, 217)), ((4, 60), (0, 12, 221)), ((4, 63), (2, 13, 224)), ((4, 67), (2, 14, 228)), ((4, 71), (2, 15, 232)), ((4, 75), (2, 16, 236)), ((0, 22), (2, 17, 240)), ((0, 25), (2, 18, 244)), ((2, 61), (6, 0, 248)), ((4, 79), (2, 19, 251)), ((11, 18), (2, 20, 255)), ((11, 22), (2, 21, 259)), ((4, 83), (2, 22, 263)), ((4, 86), (0, 23, 267)), ((4, 89), (0, 24, 270)), ((4, 92), (0, 25, 273)), ((4, 246), (0, 26, 276)), ((4, 249), (0, 27, 279)), ((4, 255), (0, 28, 282)), ((4, 134), (0, 29, 285)), ((4, 100), (0, 30, 291)), ((4, 103), (2, 31, 294)), ((2, 75), (1, 30, 298)), ((11, 27), (2, 32, 299)), ((4, 106), (2, 11, 303)), ((4, 109), (0, 33, 304)), ((4, 252), (0, 34, 307)), ((4, 112), (0, 35, 310)), ((11, 32), (2, 36, 313)), ((11, 37), (2, 37, 317)), ((4, 121), (2, 38, 321)), ((4, 124), (2, 39, 325)), ((2, 82), (2, 38, 329)), ((2, 85), (2, 40, 330)), ((4, 127), (0, 41, 334)), ((4, 130), (2, 42, 337)), ((2, 71), (2, 43, 341)), ((2, 79), (1, 35, 345)), ((11, 41), (2, 44, 346)), ((4, 139), (2, 43, 350)), ((4, 142), (0, 45, 351)), ((6, 9), (0, 46, 354)), ((6, 15), (2, 13, 357)), ((6, 21), (2, 11, 358)), ((6, 36), (0, 47, 359)), ((4, 147), (2, 48, 362)), ((1, 34), (2, 11, 366)), ((1, 40), (2, 14, 367)), ((1, 44), (2, 49, 368)), ((1, 48), (2, 50, 372)), ((1, 66), (2, 13, 376)), ((1, 69), (2, 22, 377)), ((1, 75), (1, 30, 378)), ((1, 81), (2, 51, 379)), ((1, 52), (2, 52, 384)), ((1, 92), (0, 4, 388)), ((1, 98), (1, 28, 389)), ((1, 84), (1, 26, 390)), ((1, 101), (1, 34, 391)), ((1, 59), (1, 35, 392)), ((1, 63), (2, 53, 393)), ((1, 87), (0, 54, 397)), ((4, 151), (2, 55, 400)), ((1, 104), (2, 56, 404)), ((1, 108), (0, 57, 408)), ((7, 9), (2, 11, 411)), ((7, 19), (1, 35, 412)), ((1, 113), (1, 58, 413)), ((1, 119), (2, 59, 416)), ((4, 155), (2, 60, 420)), ((11, 46), (2, 61, 424)), ((4, 161), (2, 62, 428)), ((4, 164), (2, 63, 432)), ((4, 176), (0, 64, 436)), ((7, 61), (0, 57, 439)), ((7, 48), (0, 65, 440)), ((7, 26), (1, 58, 443)), ((7, 64), (1, 34, 444)), ((7, 67), (0, 66, 445)), ((7, 54), (0, 67, 448)), ((7, 30), (2, 13, 451)), ((7, 33), (2, 22, 452)), ((7, 39), (1, 30, 453)), ((7, 58), (0, 68, 454)), ((4, 167), (2, 69, 457)), ((4, 182), (2, 51, 461)), ((4, 185), (0, 70, 462)), ((6, 44), (2, 62, 465)), ((6, 48), (0, 71, 466)), ((6, 52), (2, 51, 469)), ((4, 195), (2, 72, 470)), ((4, 207), (2, 59, 474)), ((11, 50), (2, 73, 475)), ((11, 54), (2, 74, 479)), ((11, 58), (2, 75, 483)), ((11, 62), (2, 76, 487)), ((4, 210), (2, 77, 491)), ((3, 41), (2, 3, 495)), ((3, 44), (2, 78, 496)), ((3, 48), (2, 79, 500)), ((3, 56), (2, 80, 504)), ((3, 59), (2, 81, 508)), ((3, 62), (2, 82, 512)), ((3, 77), (2, 83, 516)), ((3, 80), (2, 19, 520)), ((3, 65), (2, 84, 521)), ((3, 68), (2, 85, 525)), ((3, 71), (2, 86, 529)), ((3, 74), (2, 87, 533)), ((3, 84), (1, 28, 537)), ((3, 88), (1, 26, 538)), ((3, 91), (2, 31, 539)), ((3, 52), (2, 88, 540)), ((11, 66), (2, 89, 544)), ((4, 218), (2, 18, 548)), ((4, 221), (2, 90, 549)), ((2, 89), (2, 91, 553)), ((2, 92), (0, 29, 557)), ((11, 70), (2, 92, 558)), ((4, 224), (2, 93, 562)), ((11, 74), (2, 94, 566)), ((11, 78), (2, 95, 570)), ((11, 82), (2, 96, 574)), ((4, 228), (2, 91, 578)), ((11, 86), (2, 97, 579)), ((11, 90), (2, 98, 583)), ((11, 94), (2, 99, 587)), ((11, 98), (2, 100, 591)), ((11, 102), (2, 101, 595)), ((11, 106), (2, 102, 599)), ((11, 110), (2, 103, 603)), ((11, 114), (2, 104, 607)), ((11, 118), (2, 105, 611)), ((11, 122), (2, 106, 615)), ((11, 126), (2, 107, 619)), ((11, 130), (2, 108, 623)), ((4, 234), (2, 109, 627)), ((11, 134), (2, 110, 631)), ((4, 237), (0, 58, 635)), ((4, 240), (2, 111, 636)), ((11, 138), (2, 112, 640)), ((4, 243), (0, 113, 644)), ((11, 142), (2, 114, 647)), ((11, 12), (3, 115, 653)), ((5, 1), (5, 1, 656)), ((11, 17), (2, 116, 719)), ((5, 97), (2, 117, 723)), ((5, 73), (2, 118, 727)), ((5, 62), (2, 119, 731)), ((5, 58), (2, 120, 735)), ((5, 51), (0, 121, 739)), ((5, 55), (0, 122, 742)), ((5, 76), (0, 123, 745)), ((5, 79), (2, 124, 748)), ((5, 83), (2, 125, 752)), ((5, 86), (2, 126, 756)), ((5, 90), (2, 127, 760)), ((5, 69), (2, 128, 764)), ((5, 93), (2, 129, 768)), ((11, 21), (2, 130, 772)), ((11, 26), (2, 131, 776)), ((5, 104), (2, 132, 780)), ((5, 101), (2, 133, 784)), ((5, 108), (0, 134, 788)), ((5, 111), (0, 135, 791)), ((5, 47), (0, 136, 794)), ((5, 114), (0, 137, 797)), ((11, 31), (2, 138, 800)), ((11, 36), (2, 139, 804)), ((11, 40), (2, 140, 808)), ((5, 117), (2, 141, 812)), ((11, 45), (2, 142, 816)), ((5, 148), (2, 143, 820)), ((5, 152), (2, 144, 824)), ((5, 155), (2, 145, 828)), ((5, 130), (2, 146, 832)), ((5, 123), (2, 147, 836)), ((5, 127), (2, 148, 840)), ((5, 133), (0, 149, 844)), ((5, 142), (0, 150, 847)), ((5, 145), (2, 151, 850)), ((5, 158), (2, 152, 854)), ((5, 139), (2, 153, 858)), ((5, 161), (2, 154, 862)), ((11, 49), (2, 155, 866)), ((5, 171), (2, 156, 870)), ((5, 178), (2, 157, 874)), ((5, 181), (2, 158, 878)), ((5, 174), (2, 159, 882)), ((5, 168), (2, 160, 886)), ((5, 164), (2, 161, 890)), ((5, 184), (2, 162, 894)), ((11, 53), (2, 163, 898)), ((5, 187), (2, 164, 902)), ((11, 57), (2, 165, 906)), ((11, 61), (2, 166, 910)), ((11, 65), (2, 167, 914)), ((5, 214), (2, 168, 918)), ((5, 208), (2, 169, 922)), ((5, 202), (2, 170, 926)), ((5, 205), (2, 171, 930)), ((5, 211), (2, 172, 934)), ((11, 69), (2, 173, 938)), ((11, 73), (2, 174, 942)), ((11, 77), (2, 175, 946)), ((11, 81), (2, 176, 950)), ((11, 85), (2, 177, 954)), ((11, 89), (2, 178, 958)), ((11, 93), (2, 179, 962)), ((11, 97), (2, 180, 966)), ((11, 101), (2, 181, 970)), ((11, 105), (2, 182, 974)), ((11, 109), (2, 183, 978)), ((11, 113), (2, 184, 982)), ((11, 117), (2, 185, 986)), ((11, 121), (2, 186, 990)), ((11, 125), (2, 187, 994)), ((11, 129), (2, 154, 998)), ((11, 133), (2, 188, 999)), ((11, 137), (2, 189, 1003)), ((11, 141), (2, 190, 1007)), ((11, 145), (2, 191, 1011))]
def xW : List (Nat × Nat × Nat × Nat) := [(4, 32, 6, 116), (4, 39, 7, 146), (2, 75, 30, 298), (2, 79, 35, 345), (1, 75, 30, 378), (1, 98, 28, 389), (1, 84, 26, 390), (1, 101, 34, 391), (1, 59, 35, 392), (7, 19, 35, 412), (1, 113, 58, 413), (7, 26, 58, 443), (7, 64, 34, 444), (7, 39, 30, 453), (3, 84, 28, 537), (3, 88, 26, 538)]
/-- places in lw_tbl: initialized, static or instanceMethod, selects -/
def xw : List (Nat × Nat × Nat) := [(57, 72, 0), (56, 75, 0), (58, 80, 0), (58, 84, 85), (59, 88, 0), (60, 157, 0), (61, 173, 0), (62, 203, 0), (57, 262, 263), (57, 267, 0), (58, 270, 271), (58, 274, 275), (57, 278, 0), (58, 281, 282), (58, 285, 286), (58, 289, 290), (60, 293, 294), (60, 298, 1), (58, 301, 302), (58, 308, 309), (57, 312, 313), (57, 316, 317), (58, 320, 321), (57, 324, 0), (57, 327, 0), (57, 330, 0), (57, 333, 0), (57, 336, 0), (57, 339, 0), (65, 342, 0), (57, 348, 0), (58, 351, 352), (57, 356, 357), (57, 361, 0), (57, 364, 0), (57, 367, 0), (57, 370, 371), (57, 374, 375), (58, 378, 379), (58, 382, 383), (58, 387, 388), (57, 391, 0), (58, 394, 395), (58, 398, 399), (57, 403, 404), (66, 408, 0), (66, 411, 0), (67, 416, 0), (61, 419, 420), (61, 426, 2), (61, 430, 3), (58, 436, 437), (61, 442, 4), (61, 451, 5), (67, 454, 0), (61, 457, 458), (61, 462, 6), (68, 465, 0), (57, 470, 0), (58, 473, 474), (58, 477, 478), (57, 481, 482), (58, 485, 486), (57, 490, 7), (68, 493, 0), (68, 497, 0), (68, 502, 0), (68, 505, 0), (68, 511, 0), (57, 515, 8), (66, 519, 0), (66, 523, 0), (57, 528, 9), (57, 532, 533), (57, 536, 537), (57, 540, 541), (57, 544, 545), (62, 548, 549), (62, 554, 10), (62, 558, 11), (62, 562, 12), (62, 566, 13), (62, 570, 14), (62, 574, 15), (62, 579, 16), (62, 583, 17), (62, 587, 18), (62, 591, 19), (62, 598, 20), (57, 601, 602), (58, 606, 607), (58, 610, 611), (57, 615, 616), (60, 619, 620), (57, 623, 624), (57, 627, 628), (57, 631, 632), (57, 636, 637), (57, 640, 641), (57, 644, 645), (57, 648, 649), (57, 652, 653), (57, 656, 657), (57, 660, 661), (57, 664, 665), (57, 668, 669), (57, 672, 673), (57, 676, 677), (57, 680, 681), (58, 684, 685), (57, 688, 689), (58, 693, 694), (57, 697, 698), (68, 701, 0), (57, 704, 705), (63, 710, 0), (63, 776, 777), (63, 781, 21), (63, 785, 22), (63, 789, 23), (63, 793, 24), (63, 796, 0), (63, 799, 0), (63, 802, 0), (63, 806, 25), (63, 810, 26), (63, 814, 27), (63, 818, 28), (63, 822, 29), (63, 826, 30), (63, 829, 830), (63, 833, 834), (63, 838, 31), (63, 842, 32), (63, 845, 0), (63, 848, 0), (63, 851, 0), (63, 854, 0), (63, 857, 858), (63, 861, 862), (63, 865, 866), (63, 870, 33), (63, 873, 874), (63, 878, 34), (63, 882, 35), (63, 886, 36), (63, 890, 37), (63, 894, 38), (63, 898, 39), (63, 901, 0), (63, 904, 0), (63, 908, 40), (63, 912, 41), (63, 916, 42), (63, 919, 920), (63, 923, 924), (63, 928, 43), (63, 932, 44), (63, 936, 45), (63, 940, 46), (63, 944, 47), (63, 948, 48), (63, 952, 49), (63, 955, 956), (63, 960, 50), (63, 963, 964), (63, 967, 968), (63, 971, 972), (63, 976, 51), (63, 980, 52), (63, 984, 53), (63, 988, 54), (63, 992, 55), (63, 995, 996), (63, 999, 1000), (63, 1003, 1004), (63, 1007, 1008), (63, 1011, 1012), (63, 1015, 1016), (63, 1019, 1020), (63, 1023, 1024), (63, 1027, 1028), (63, 1031, 1032), (63, 1035, 1036), (63, 1039, 1040), (63, 1043, 1044), (63, 1047, 1048), (63, 1051, 1052), (63, 1056, 1057), (63, 1060, 1061), (63, 1064, 1065), (63, 1068, 1069)]
def xinst : List Nat := [99, 115, 22, 145, 14, 652]
def xini : List Nat := [4, 5, 2, 6, 1, 7]
