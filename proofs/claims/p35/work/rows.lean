section
-- ===== PART A: goes FIRST, ahead of the names: the tables' words, and 'selects' of the private methods out of them =====
/-- a private method of a class that the tables say can be made, by its rows of tables_1 -/
def lw_okq (q : MethodName × Nat) : Prop := (q.1.cls ≠ "java/lang/invoke/MethodHandle" ∧ q.1.cls ≠ "java/lang/invoke/VarHandle") ∧ Cond.instantiable q.1.cls q.2 ∈ tables_1 ∧ Cond.privateMethod q.1 ∈ tables_1 ∧ Cond.instanceMethod q.1 ∈ tables_1
theorem lw_p0 : lw_okq (⟨"BusRack", "addDevice", "(III)I"⟩, 8) := ⟨⟨by decide +kernel, by decide +kernel⟩, List.mem_of_getElem? (i := 13) (by decide +kernel), List.mem_of_getElem? (i := 207) (by decide +kernel), List.mem_of_getElem? (i := 208) (by decide +kernel)⟩
theorem lw_p1 : lw_okq (⟨"BusRack$History", "dropOldest", "()V"⟩, 2) := ⟨⟨by decide +kernel, by decide +kernel⟩, List.mem_of_getElem? (i := 98) (by decide +kernel), List.mem_of_getElem? (i := 238) (by decide +kernel), List.mem_of_getElem? (i := 239) (by decide +kernel)⟩
theorem lw_p2 : lw_okq (⟨"BusRack$Layout", "measureBridge", "(LBusRack$Rack;II)V"⟩, 7) := ⟨⟨by decide +kernel, by decide +kernel⟩, List.mem_of_getElem? (i := 114) (by decide +kernel), List.mem_of_getElem? (i := 448) (by decide +kernel), List.mem_of_getElem? (i := 449) (by decide +kernel)⟩
theorem lw_p3 : lw_okq (⟨"BusRack$Layout", "listItems", "(LBusRack$Rack;II)V"⟩, 7) := ⟨⟨by decide +kernel, by decide +kernel⟩, List.mem_of_getElem? (i := 114) (by decide +kernel), List.mem_of_getElem? (i := 452) (by decide +kernel), List.mem_of_getElem? (i := 453) (by decide +kernel)⟩
theorem lw_p4 : lw_okq (⟨"BusRack$Layout", "pack", "(III)I"⟩, 7) := ⟨⟨by decide +kernel, by decide +kernel⟩, List.mem_of_getElem? (i := 114) (by decide +kernel), List.mem_of_getElem? (i := 464) (by decide +kernel), List.mem_of_getElem? (i := 465) (by decide +kernel)⟩
theorem lw_p5 : lw_okq (⟨"BusRack$Layout", "greatestAlignment", "(I)I"⟩, 7) := ⟨⟨by decide +kernel, by decide +kernel⟩, List.mem_of_getElem? (i := 114) (by decide +kernel), List.mem_of_getElem? (i := 473) (by decide +kernel), List.mem_of_getElem? (i := 474) (by decide +kernel)⟩
theorem lw_p6 : lw_okq (⟨"BusRack", "attachCard", "(I)I"⟩, 8) := ⟨⟨by decide +kernel, by decide +kernel⟩, List.mem_of_getElem? (i := 13) (by decide +kernel), List.mem_of_getElem? (i := 558) (by decide +kernel), List.mem_of_getElem? (i := 559) (by decide +kernel)⟩
theorem lw_p7 : lw_okq (⟨"BusRack", "attachBridge", "(I)I"⟩, 8) := ⟨⟨by decide +kernel, by decide +kernel⟩, List.mem_of_getElem? (i := 13) (by decide +kernel), List.mem_of_getElem? (i := 562) (by decide +kernel), List.mem_of_getElem? (i := 563) (by decide +kernel)⟩
theorem lw_p8 : lw_okq (⟨"BusRack", "attachWindow", "(II)I"⟩, 8) := ⟨⟨by decide +kernel, by decide +kernel⟩, List.mem_of_getElem? (i := 13) (by decide +kernel), List.mem_of_getElem? (i := 577) (by decide +kernel), List.mem_of_getElem? (i := 578) (by decide +kernel)⟩
theorem lw_p9 : lw_okq (⟨"BusRack$Layout", "placeItems", "(LBusRack$Rack;II)I"⟩, 7) := ⟨⟨by decide +kernel, by decide +kernel⟩, List.mem_of_getElem? (i := 114) (by decide +kernel), List.mem_of_getElem? (i := 589) (by decide +kernel), List.mem_of_getElem? (i := 590) (by decide +kernel)⟩
def lw_privs_1 : List (MethodName × Nat) := [(⟨"BusRack", "addDevice", "(III)I"⟩, 8), (⟨"BusRack$History", "dropOldest", "()V"⟩, 2), (⟨"BusRack$Layout", "measureBridge", "(LBusRack$Rack;II)V"⟩, 7), (⟨"BusRack$Layout", "listItems", "(LBusRack$Rack;II)V"⟩, 7), (⟨"BusRack$Layout", "pack", "(III)I"⟩, 7), (⟨"BusRack$Layout", "greatestAlignment", "(I)I"⟩, 7), (⟨"BusRack", "attachCard", "(I)I"⟩, 8), (⟨"BusRack", "attachBridge", "(I)I"⟩, 8), (⟨"BusRack", "attachWindow", "(II)I"⟩, 8), (⟨"BusRack$Layout", "placeItems", "(LBusRack$Rack;II)I"⟩, 7)]
theorem lw_r1 : ∀ q ∈ lw_privs_1, lw_okq q := List.forall_mem_cons.mpr ⟨lw_p0, List.forall_mem_cons.mpr ⟨lw_p1, List.forall_mem_cons.mpr ⟨lw_p2, List.forall_mem_cons.mpr ⟨lw_p3, List.forall_mem_cons.mpr ⟨lw_p4, List.forall_mem_cons.mpr ⟨lw_p5, List.forall_mem_cons.mpr ⟨lw_p6, List.forall_mem_cons.mpr ⟨lw_p7, List.forall_mem_cons.mpr ⟨lw_p8, List.forall_mem_cons.mpr ⟨lw_p9, fun _ h => absurd h List.not_mem_nil⟩⟩⟩⟩⟩⟩⟩⟩⟩⟩
def lw_privs : List (MethodName × Nat) := lw_privs_1
def lw_tbl : List Cond := k2_sels lw_privs ++ tables_1
theorem lw_privs_ok : ∀ q ∈ lw_privs, lw_okq q := lw_r1
end
section
/-! the program's tables: classes, fields, methods; links by their places among the tables' words -/
def xC : Nat → String := fun k => match k with
  | 0 => "BusRack$History"
  | 1 => "BusRack$Layout"
  | 2 => "BusRack$Rack"
  | 3 => "BusRack$Reader"
  | 4 => "BusRack"
  | 5 => "BusRack$Numbers"
  | 6 => "BusRack$Room"
  | 7 => "java/lang/Integer"
  | 8 => "java/lang/Math"
  | 9 => "java/util/Arrays"
  | 10 => "BusRackLaw"
  | _ => "java/lang/Object"
def xT : Nat → u_T := fun c => match c with
  | 0 => fun k => match k with
    | 0 => ("BusRack$History", "states", "[LBusRack$Rack;", true)
    | _ => ("BusRack$History", "count", "I", false)
  | 1 => fun k => match k with
    | 0 => ("BusRack$Layout", "needs", "[I", true)
    | 1 => ("BusRack$Layout", "alignments", "[I", true)
    | 2 => ("BusRack$Layout", "itemSizes", "[I", true)
    | 3 => ("BusRack$Layout", "itemAlignments", "[I", true)
    | 4 => ("BusRack$Layout", "starts", "[I", true)
    | 5 => ("BusRack$Layout", "waitingBuses", "[I", true)
    | _ => ("BusRack$Layout", "waiting", "I", false)
  | 2 => fun k => match k with
    | 0 => ("BusRack$Rack", "kinds", "[I", true)
    | 1 => ("BusRack$Rack", "buses", "[I", true)
    | 2 => ("BusRack$Rack", "slots", "[I", true)
    | 3 => ("BusRack$Rack", "held", "[I", true)
    | 4 => ("BusRack$Rack", "regionSpaces", "[I", true)
    | 5 => ("BusRack$Rack", "regionSizes", "[I", true)
    | 6 => ("BusRack$Rack", "regionBases", "[I", true)
    | 7 => ("BusRack$Rack", "reserves", "[I", true)
    | 8 => ("BusRack$Rack", "windowBases", "[I", true)
    | 9 => ("BusRack$Rack", "windowSizes", "[I", true)
    | 10 => ("BusRack$Rack", "firstNumbers", "[I", true)
    | 11 => ("BusRack$Rack", "lastNumbers", "[I", true)
    | _ => ("BusRack$Rack", "gap", "I", false)
  | 3 => fun k => match k with
    | 0 => ("BusRack$Reader", "rack", "LBusRack$Rack;", true)
    | 1 => ("BusRack$Reader", "count", "I", false)
    | 2 => ("BusRack$Reader", "due", "I", false)
    | 3 => ("BusRack$Reader", "level", "I", false)
    | 4 => ("BusRack$Reader", "openBuses", "[I", true)
    | 5 => ("BusRack$Reader", "lastSlots", "[I", true)
    | 6 => ("BusRack$Reader", "regions", "I", false)
    | _ => ("BusRack$Reader", "space", "I", false)
  | 4 => fun k => match k with
    | 0 => ("BusRack", "rack", "LBusRack$Rack;", true)
    | 1 => ("BusRack", "snapshot", "LBusRack$Rack;", true)
    | 2 => ("BusRack", "hasSnapshot", "Z", false)
    | 3 => ("BusRack", "history", "LBusRack$History;", true)
    | 4 => ("BusRack", "layout", "LBusRack$Layout;", true)
    | 5 => ("BusRack", "reader", "LBusRack$Reader;", true)
    | 6 => ("BusRack", "text", "[C", true)
    | _ => ("BusRack", "textLength", "I", false)
  | _ => fun _ => ("", "", "", false)
def xt : Nat → Nat → FieldType := fun c => match c with
  | 0 => fun k => match k with
    | 0 => .array (.object "BusRack$Rack")
    | _ => .int
  | 1 => fun k => match k with
    | 0 => .array .int
    | 1 => .array .int
    | 2 => .array .int
    | 3 => .array .int
    | 4 => .array .int
    | 5 => .array .int
    | _ => .int
  | 2 => fun k => match k with
    | 0 => .array .int
    | 1 => .array .int
    | 2 => .array .int
    | 3 => .array .int
    | 4 => .array .int
    | 5 => .array .int
    | 6 => .array .int
    | 7 => .array .int
    | 8 => .array .int
    | 9 => .array .int
    | 10 => .array .int
    | 11 => .array .int
    | _ => .int
  | 3 => fun k => match k with
    | 0 => .object "BusRack$Rack"
    | 1 => .int
    | 2 => .int
    | 3 => .int
    | 4 => .array .int
    | 5 => .array .int
    | 6 => .int
    | _ => .int
  | 4 => fun k => match k with
    | 0 => .object "BusRack$Rack"
    | 1 => .object "BusRack$Rack"
    | 2 => .boolean
    | 3 => .object "BusRack$History"
    | 4 => .object "BusRack$Layout"
    | 5 => .object "BusRack$Reader"
    | 6 => .array .char
    | _ => .int
  | _ => fun _ => .int
def xN : Nat → Nat := fun c => match c with
  | 0 => 2
  | 1 => 7
  | 2 => 13
  | 3 => 8
  | 4 => 8
  | _ => 0
def xcl : List vw_C := [(xC 0, xT 0, xN 0), (xC 1, xT 1, xN 1), (xC 2, xT 2, xN 2), (xC 3, xT 3, xN 3), (xC 4, xT 4, xN 4)]
def xlay : List Nat := [108, 110, 128, 130, 132, 134, 136, 138, 140, 69, 71, 73, 75, 77, 79, 81, 83, 85, 87, 89, 91, 93, 159, 161, 163, 165, 167, 169, 171, 173, 184, 186, 188, 190, 192, 194, 196, 198]
def xM : List (MethodName × ByteArray × Nat × Option FieldType × Nat × Nat) := [
  (⟨"BusRack", "<init>", "()V"⟩, prog_1_method_1_code, 1, none, 4, 0),
  (⟨"java/lang/Object", "<init>", "()V"⟩, object_method_1_code, 1, none, 11, 0),
  (⟨"BusRack$Rack", "<init>", "()V"⟩, prog_5_method_1_code, 1, none, 2, 0),
  (⟨"BusRack$Rack", "empty", "()V"⟩, prog_5_method_2_code, 1, none, 2, 0),
  (⟨"java/util/Arrays", "fill", "([II)V"⟩, prog_13_method_103_code, 4, none, 9, 2),
  (⟨"BusRack$History", "<init>", "()V"⟩, prog_2_method_1_code, 2, none, 0, 0),
  (⟨"BusRack$Layout", "<init>", "()V"⟩, prog_3_method_1_code, 1, none, 1, 0),
  (⟨"BusRack$Reader", "<init>", "()V"⟩, prog_6_method_1_code, 1, none, 3, 0),
  (⟨"BusRack", "addCard", "(II)I"⟩, prog_1_method_2_code, 3, some .int, 4, 2),
  (⟨"BusRack", "addDevice", "(III)I"⟩, prog_1_method_4_code, 5, some .int, 4, 3),
  (⟨"BusRack$Rack", "isBus", "(I)Z"⟩, prog_5_method_8_code, 2, some .boolean, 2, 1),
  (⟨"BusRack$Rack", "isBridge", "(I)Z"⟩, prog_5_method_6_code, 2, some .boolean, 2, 1),
  (⟨"BusRack", "isSlot", "(I)Z"⟩, prog_1_method_38_code, 1, some .boolean, 4, 1),
  (⟨"BusRack$Rack", "deviceAt", "(II)I"⟩, prog_5_method_9_code, 4, some .int, 2, 2),
  (⟨"BusRack$Rack", "depthOfBus", "(I)I"⟩, prog_5_method_16_code, 4, some .int, 2, 1),
  (⟨"BusRack$Rack", "leastFreeNumber", "()I"⟩, prog_5_method_10_code, 2, some .int, 2, 0),
  (⟨"BusRack$History", "record", "(LBusRack$Rack;)V"⟩, prog_2_method_2_code, 3, none, 0, 1),
  (⟨"BusRack$History", "dropOldest", "()V"⟩, prog_2_method_3_code, 3, none, 0, 0),
  (⟨"BusRack$Rack", "copyFrom", "(LBusRack$Rack;)V"⟩, prog_5_method_3_code, 2, none, 2, 1),
  (⟨"BusRack$Rack", "put", "(IIII)V"⟩, prog_5_method_11_code, 5, none, 2, 4),
  (⟨"BusRack", "addBridge", "(II)I"⟩, prog_1_method_3_code, 3, some .int, 4, 2),
  (⟨"BusRack", "undo", "()I"⟩, prog_1_method_19_code, 1, some .int, 4, 0),
  (⟨"BusRack$History", "takeLatestInto", "(LBusRack$Rack;)I"⟩, prog_2_method_4_code, 3, some .int, 0, 1),
  (⟨"BusRackLaw", "cell", "([II)I"⟩, method_2_code, 2, some .int, 10, 2),
  (⟨"BusRackLaw", "low", "(II)I"⟩, method_3_code, 2, some .int, 10, 2),
  (⟨"BusRackLaw", "hangs", "(LBusRack;I)Z"⟩, method_11_code, 8, some .boolean, 10, 2),
  (⟨"BusRackLaw", "isBridge", "(LBusRack;I)Z"⟩, method_7_code, 2, some .boolean, 10, 2),
  (⟨"BusRack", "bridges", "()I"⟩, prog_1_method_23_code, 1, some .int, 4, 0),
  (⟨"BusRack$Rack", "maskOf", "(I)I"⟩, prog_5_method_19_code, 4, some .int, 2, 1),
  (⟨"BusRack", "deviceIn", "(II)I"⟩, prog_1_method_24_code, 3, some .int, 4, 2),
  (⟨"BusRack", "depth", "(I)I"⟩, prog_1_method_25_code, 2, some .int, 4, 1),
  (⟨"BusRack$Rack", "isDevice", "(I)Z"⟩, prog_5_method_4_code, 2, some .boolean, 2, 1),
  (⟨"BusRackLaw", "numbers", "(LBusRack;I)Z"⟩, method_10_code, 10, some .boolean, 10, 2),
  (⟨"BusRack", "firstNumber", "(I)I"⟩, prog_1_method_28_code, 2, some .int, 4, 1),
  (⟨"BusRack", "lastNumber", "(I)I"⟩, prog_1_method_29_code, 2, some .int, 4, 1),
  (⟨"BusRack", "answer", "(II)I"⟩, prog_1_method_34_code, 3, some .int, 4, 2),
  (⟨"BusRack$Rack", "busWithNumber", "(I)I"⟩, prog_5_method_23_code, 3, some .int, 2, 1),
  (⟨"BusRackLaw", "bus", "(LBusRack;II)Z"⟩, method_8_code, 11, some .boolean, 10, 3),
  (⟨"BusRack", "windowBase", "(II)I"⟩, prog_1_method_30_code, 3, some .int, 4, 2),
  (⟨"BusRack", "isSpace", "(I)Z"⟩, prog_1_method_40_code, 1, some .boolean, 4, 1),
  (⟨"BusRack", "windowIndex", "(II)I"⟩, prog_1_method_48_code, 2, some .int, 4, 2),
  (⟨"BusRackLaw", "all", "(I)I"⟩, method_4_code, 1, some .int, 10, 1),
  (⟨"BusRack", "windowSize", "(II)I"⟩, prog_1_method_31_code, 3, some .int, 4, 2),
  (⟨"BusRackLaw", "grain", "(I)I"⟩, method_5_code, 1, some .int, 10, 1),
  (⟨"BusRackLaw", "isCard", "(LBusRack;I)Z"⟩, method_6_code, 2, some .boolean, 10, 2),
  (⟨"BusRack", "devices", "()I"⟩, prog_1_method_22_code, 1, some .int, 4, 0),
  (⟨"BusRack", "base", "(II)I"⟩, prog_1_method_27_code, 3, some .int, 4, 2),
  (⟨"BusRack$Rack", "isCard", "(I)Z"⟩, prog_5_method_5_code, 2, some .boolean, 2, 1),
  (⟨"BusRack", "isRegion", "(I)Z"⟩, prog_1_method_39_code, 1, some .boolean, 4, 1),
  (⟨"BusRack", "regionIndex", "(II)I"⟩, prog_1_method_47_code, 2, some .int, 4, 2),
  (⟨"BusRack", "size", "(II)I"⟩, prog_1_method_26_code, 3, some .int, 4, 2),
  (⟨"BusRack", "find", "(II)I"⟩, prog_1_method_35_code, 3, some .int, 4, 2),
  (⟨"BusRack", "addressesOf", "(I)I"⟩, prog_1_method_43_code, 1, some .int, 4, 1),
  (⟨"BusRack$Rack", "regionCovering", "(II)I"⟩, prog_5_method_24_code, 5, some .int, 2, 2),
  (⟨"BusRack", "freeRoom", "(II)I"⟩, prog_1_method_36_code, 3, some .int, 4, 2),
  (⟨"BusRack$Room", "countFree", "(LBusRack$Rack;II)I"⟩, prog_7_method_6_code, 5, some .int, 6, 3),
  (⟨"BusRack$Room", "extentOf", "(LBusRack$Rack;II)I"⟩, prog_7_method_3_code, 3, some .int, 6, 3),
  (⟨"BusRack$Room", "coverStart", "(LBusRack$Rack;III)I"⟩, prog_7_method_4_code, 6, some .int, 6, 4),
  (⟨"BusRack$Room", "coverSize", "(LBusRack$Rack;III)I"⟩, prog_7_method_5_code, 5, some .int, 6, 4),
  (⟨"BusRackLaw", "fits", "(LBusRack;III)Z"⟩, method_9_code, 6, some .boolean, 10, 4),
  (⟨"BusRack", "firstFit", "(III)I"⟩, prog_1_method_37_code, 4, some .int, 4, 3),
  (⟨"BusRack", "isSizeOf", "(II)Z"⟩, prog_1_method_41_code, 2, some .boolean, 4, 2),
  (⟨"BusRack", "grainOf", "(I)I"⟩, prog_1_method_44_code, 1, some .int, 4, 1),
  (⟨"BusRack", "largestSizeOf", "(I)I"⟩, prog_1_method_46_code, 1, some .int, 4, 1),
  (⟨"BusRack", "largestExponentOf", "(I)I"⟩, prog_1_method_45_code, 1, some .int, 4, 1),
  (⟨"java/lang/Integer", "bitCount", "(I)I"⟩, prog_10_method_49_code, 1, some .int, 7, 1),
  (⟨"BusRack$Room", "fitIn", "(LBusRack$Rack;IIII)I"⟩, prog_7_method_7_code, 9, some .int, 6, 5),
  (⟨"BusRack$Room", "startOf", "(LBusRack$Rack;II)I"⟩, prog_7_method_2_code, 3, some .int, 6, 3),
  (⟨"BusRack", "roundUp", "(II)I"⟩, prog_1_method_50_code, 2, some .int, 4, 2),
  (⟨"BusRack$Room", "endOfCover", "(LBusRack$Rack;IIII)I"⟩, prog_7_method_8_code, 8, some .int, 6, 5),
  (⟨"BusRack", "need", "(II)I"⟩, prog_1_method_32_code, 3, some .int, 4, 2),
  (⟨"BusRack$Layout", "measure", "(LBusRack$Rack;I)V"⟩, prog_3_method_2_code, 5, none, 1, 2),
  (⟨"BusRack$Layout", "measureBridge", "(LBusRack$Rack;II)V"⟩, prog_3_method_3_code, 4, none, 1, 3),
  (⟨"BusRack$Layout", "listItems", "(LBusRack$Rack;II)V"⟩, prog_3_method_4_code, 7, none, 1, 3),
  (⟨"BusRack$Rack", "isNumbered", "(I)Z"⟩, prog_5_method_7_code, 2, some .boolean, 2, 1),
  (⟨"BusRack$Layout", "pack", "(III)I"⟩, prog_3_method_6_code, 10, some .int, 1, 3),
  (⟨"BusRack$Layout", "greatestAlignment", "(I)I"⟩, prog_3_method_5_code, 4, some .int, 1, 1),
  (⟨"java/lang/Math", "max", "(II)I"⟩, prog_11_method_65_code, 2, some .int, 8, 2),
  (⟨"BusRack", "unplaced", "()I"⟩, prog_1_method_33_code, 1, some .int, 4, 0),
  (⟨"BusRack$Rack", "countUnplaced", "()I"⟩, prog_5_method_21_code, 3, some .int, 2, 0),
  (⟨"BusRackLaw", "print", "(LBusRack;)J"⟩, method_12_code, 5, some .long, 10, 1),
  (⟨"BusRackLaw", "act", "(LBusRack;I)I"⟩, method_13_code, 4, some .int, 10, 2),
  (⟨"BusRack", "setRegion", "(IIII)I"⟩, prog_1_method_5_code, 6, some .int, 4, 4),
  (⟨"BusRack$Rack", "changeRegion", "(IIII)V"⟩, prog_5_method_13_code, 6, none, 2, 4),
  (⟨"BusRack", "setReserve", "(III)I"⟩, prog_1_method_6_code, 6, some .int, 4, 3),
  (⟨"BusRack", "isReserveOf", "(II)Z"⟩, prog_1_method_42_code, 3, some .boolean, 4, 2),
  (⟨"BusRack", "pull", "(I)I"⟩, prog_1_method_8_code, 4, some .int, 4, 1),
  (⟨"BusRack$Rack", "familyOf", "(I)I"⟩, prog_5_method_18_code, 4, some .int, 2, 1),
  (⟨"BusRack$Rack", "isWithin", "(II)Z"⟩, prog_5_method_17_code, 5, some .boolean, 2, 2),
  (⟨"BusRack", "isIn", "(II)Z"⟩, prog_1_method_49_code, 2, some .boolean, 4, 2),
  (⟨"BusRack$Rack", "remove", "(I)V"⟩, prog_5_method_12_code, 3, none, 2, 1),
  (⟨"BusRack$Rack", "release", "(I)I"⟩, prog_5_method_15_code, 5, some .int, 2, 1),
  (⟨"BusRack", "setGap", "(I)I"⟩, prog_1_method_7_code, 3, some .int, 4, 1),
  (⟨"BusRack", "detach", "(I)I"⟩, prog_1_method_14_code, 5, some .int, 4, 1),
  (⟨"BusRack", "attach", "(I)I"⟩, prog_1_method_10_code, 2, some .int, 4, 1),
  (⟨"BusRack$Rack", "numberOf", "(I)I"⟩, prog_5_method_22_code, 2, some .int, 2, 1),
  (⟨"BusRack", "attachCard", "(I)I"⟩, prog_1_method_11_code, 7, some .int, 4, 1),
  (⟨"BusRack", "attachBridge", "(I)I"⟩, prog_1_method_12_code, 4, some .int, 4, 1),
  (⟨"BusRack$Numbers", "leastFor", "(LBusRack$Rack;I)I"⟩, prog_4_method_4_code, 5, some .int, 5, 2),
  (⟨"BusRack$Numbers", "isTaken", "(LBusRack$Rack;II)Z"⟩, prog_4_method_5_code, 5, some .boolean, 5, 3),
  (⟨"BusRack", "attachWindow", "(II)I"⟩, prog_1_method_13_code, 5, some .int, 4, 2),
  (⟨"BusRack$Rack", "openWindow", "(IIII)V"⟩, prog_5_method_14_code, 5, none, 2, 4),
  (⟨"BusRack$Layout", "place", "(LBusRack$Rack;II)I"⟩, prog_3_method_7_code, 6, some .int, 1, 3),
  (⟨"BusRack$Layout", "placeItems", "(LBusRack$Rack;II)I"⟩, prog_3_method_8_code, 7, some .int, 1, 3),
  (⟨"BusRackLaw", "plugs", "(LBusRack;I)Z"⟩, method_14_code, 9, some .boolean, 10, 2),
  (⟨"BusRack", "enumerate", "()I"⟩, prog_1_method_9_code, 2, some .int, 4, 0),
  (⟨"BusRack$Numbers", "numberAll", "(LBusRack$Rack;)V"⟩, prog_4_method_2_code, 1, none, 5, 1),
  (⟨"BusRack$Numbers", "numberBus", "(LBusRack$Rack;III)I"⟩, prog_4_method_3_code, 8, some .int, 5, 4),
  (⟨"java/lang/Math", "min", "(II)I"⟩, prog_11_method_69_code, 2, some .int, 8, 2),
  (⟨"BusRackLaw", "law", "([I)Z"⟩, code, 8, some .boolean, 10, 1)]
def xcode : List Nat := [16, 19, 24, 29, 32, 101, 117, 147, 205, 209, 213, 217, 220, 224, 228, 232, 236, 240, 244, 251, 255, 259, 263, 266, 271, 275, 278, 282, 286, 290, 294, 298, 301, 305, 310, 314, 318, 321, 325, 328, 331, 334, 338, 341, 344, 348, 352, 356, 359, 362, 366, 370, 373, 377, 381, 384, 387, 393, 399, 402, 406, 409, 412, 415, 418, 421, 427, 430, 433, 436, 440, 444, 450, 454, 461, 466, 475, 478, 482, 486, 489, 497, 501, 505, 510, 513, 518, 522, 527, 530, 534, 538, 543, 547, 552, 556, 560, 564, 568, 573, 579, 583, 587, 591, 597, 601, 604, 607, 610]
def xm (k : Nat) : MethodName × ByteArray × Nat × Option FieldType × Nat × Nat := xM.getD k (⟨"", "", ""⟩, ByteArray.empty, 0, none, 0, 0)
def mY (k : Nat) : MethodName := (xm k).1
def mB (k : Nat) : ByteArray := (xm k).2.1
def mL (k : Nat) : Nat := (xm k).2.2.1
def mR (k : Nat) : Option FieldType := (xm k).2.2.2.1
def mO (k : Nat) : Nat := (xm k).2.2.2.2.1
def mP (k : Nat) : Nat := (xm k).2.2.2.2.2
def xF : List ((Nat × Nat) × (Nat × Nat × Nat)) := [((2, 9), (2, 0, 33)), ((2, 15), (2, 1, 34)), ((5, 41), (2, 1, 35)), ((4, 158), (2, 1, 36)), ((2, 18), (2, 2, 37)), ((2, 21), (2, 3, 38)), ((2, 24), (2, 4, 39)), ((6, 36), (2, 4, 40)), ((1, 72), (2, 4, 41)), ((4, 173), (2, 4, 42)), ((2, 27), (2, 5, 43)), ((1, 78), (2, 5, 44)), ((6, 45), (2, 5, 45)), ((4, 96), (2, 5, 46)), ((2, 30), (2, 6, 47)), ((6, 42), (2, 6, 48)), ((1, 116), (2, 6, 49)), ((4, 170), (2, 6, 50)), ((2, 33), (2, 7, 51)), ((1, 56), (2, 7, 52)), ((4, 115), (2, 7, 53)), ((2, 36), (2, 8, 54)), ((6, 15), (2, 8, 55)), ((4, 201), (2, 8, 56)), ((2, 39), (2, 9, 57)), ((6, 23), (2, 9, 58)), ((4, 231), (2, 9, 59)), ((2, 42), (2, 10, 60)), ((5, 25), (2, 10, 61)), ((4, 189), (2, 10, 62)), ((2, 45), (2, 11, 63)), ((5, 29), (2, 11, 64)), ((4, 192), (2, 11, 65)), ((2, 48), (2, 12, 66)), ((5, 32), (2, 12, 67)), ((4, 118), (2, 12, 68)), ((0, 11), (0, 0, 106)), ((0, 17), (0, 1, 107)), ((1, 9), (1, 0, 119)), ((4, 198), (1, 0, 120)), ((1, 15), (1, 1, 121)), ((4, 204), (1, 1, 122)), ((1, 18), (1, 2, 123)), ((1, 21), (1, 3, 124)), ((1, 24), (1, 4, 125)), ((1, 27), (1, 5, 126)), ((1, 30), (1, 6, 127)), ((3, 12), (3, 0, 151)), ((3, 18), (3, 1, 152)), ((3, 22), (3, 2, 153)), ((3, 25), (3, 3, 154)), ((3, 28), (3, 4, 155)), ((3, 32), (3, 5, 156)), ((3, 35), (3, 6, 157)), ((3, 38), (3, 7, 158)), ((4, 12), (4, 0, 176)), ((4, 16), (4, 1, 177)), ((4, 19), (4, 2, 178)), ((4, 26), (4, 3, 179)), ((4, 33), (4, 4, 180)), ((4, 40), (4, 5, 181)), ((4, 44), (4, 6, 182)), ((4, 48), (4, 7, 183))]
def xK : List ((Nat × Nat) × (Nat × Nat)) := [((10, 11), (4, 12)), ((4, 9), (2, 20)), ((4, 23), (0, 97)), ((0, 9), (2, 103)), ((4, 30), (1, 113)), ((4, 37), (3, 143)), ((3, 9), (2, 149))]
def xVL : List ((Nat × Nat) × (Int64 × Nat)) := [((10, 93), (31, 490)), ((10, 95), (3, 491)), ((10, 97), (5, 492)), ((10, 99), (7, 493)), ((10, 101), (9, 494))]
def xV : List ((Nat × Nat) × (Int32 × Nat)) := [((10, 7), (765356867, 267)), ((10, 8), (415756965, 268)), ((10, 9), (2147483647, 272)), ((7, 265), (1431655765, 422)), ((7, 266), (858993459, 423)), ((7, 267), (252645135, 424)), ((1, 51), (1000000, 462))]
def xI : List ((Nat × Nat) × (Nat × Nat × Nat)) := [((10, 135), (3, 0, 14)), ((4, 3), (5, 1, 17)), ((4, 11), (3, 2, 22)), ((2, 3), (5, 1, 25)), ((2, 52), (2, 3, 26)), ((2, 55), (0, 4, 30)), ((4, 25), (3, 5, 99)), ((0, 3), (5, 1, 102)), ((0, 21), (3, 2, 105)), ((4, 32), (4, 6, 115)), ((1, 3), (5, 1, 118)), ((4, 39), (4, 7, 145)), ((3, 3), (5, 1, 148)), ((3, 11), (3, 2, 150)), ((10, 103), (2, 8, 202)), ((4, 52), (2, 9, 206)), ((4, 56), (2, 10, 210)), ((2, 67), (2, 11, 214)), ((4, 60), (0, 12, 218)), ((4, 63), (2, 13, 221)), ((4, 67), (2, 14, 225)), ((4, 71), (2, 15, 229)), ((4, 75), (2, 16, 233)), ((0, 22), (2, 17, 237)), ((0, 25), (2, 18, 241)), ((2, 61), (6, 0, 245)), ((4, 79), (2, 19, 248)), ((10, 106), (2, 20, 252)), ((10, 147), (2, 21, 256)), ((4, 224), (2, 22, 260)), ((10, 139), (0, 23, 264)), ((10, 80), (0, 24, 269)), ((10, 136), (0, 25, 273)), ((10, 51), (0, 26, 276)), ((10, 16), (2, 27, 279)), ((4, 228), (2, 28, 283)), ((10, 35), (2, 29, 287)), ((10, 70), (2, 30, 291)), ((4, 121), (2, 31, 295)), ((10, 73), (0, 32, 299)), ((10, 54), (2, 33, 302)), ((4, 106), (2, 11, 306)), ((10, 64), (2, 34, 307)), ((10, 67), (2, 35, 311)), ((4, 234), (2, 36, 315)), ((10, 76), (0, 37, 319)), ((10, 19), (2, 38, 322)), ((4, 89), (0, 39, 326)), ((4, 112), (0, 40, 329)), ((10, 23), (0, 41, 332)), ((10, 29), (2, 42, 335)), ((10, 32), (0, 43, 339)), ((10, 38), (0, 44, 342)), ((10, 10), (2, 45, 345)), ((10, 42), (2, 46, 349)), ((4, 83), (2, 47, 353)), ((4, 86), (0, 48, 357)), ((4, 100), (0, 49, 360)), ((10, 45), (2, 50, 363)), ((10, 48), (2, 51, 367)), ((4, 237), (0, 52, 371)), ((4, 240), (2, 53, 374)), ((10, 57), (2, 54, 378)), ((4, 243), (0, 55, 382)), ((6, 48), (0, 56, 385)), ((6, 9), (2, 11, 388)), ((6, 19), (1, 40, 389)), ((6, 26), (1, 52, 390)), ((6, 54), (0, 57, 391)), ((6, 30), (2, 13, 394)), ((6, 33), (2, 47, 395)), ((6, 39), (1, 49, 396)), ((6, 58), (0, 58, 397)), ((10, 83), (0, 59, 400)), ((10, 60), (2, 60, 403)), ((4, 92), (0, 61, 407)), ((4, 246), (0, 62, 410)), ((4, 249), (0, 63, 413)), ((4, 255), (0, 64, 416)), ((4, 134), (0, 65, 419)), ((4, 176), (0, 66, 425)), ((6, 61), (0, 67, 428)), ((6, 64), (1, 68, 431)), ((6, 67), (0, 69, 434)), ((10, 87), (2, 70, 437)), ((4, 147), (2, 71, 441)), ((1, 34), (2, 11, 445)), ((1, 40), (2, 14, 446)), ((1, 44), (2, 72, 447)), ((1, 48), (2, 73, 451)), ((1, 66), (2, 13, 455)), ((1, 69), (2, 47, 456)), ((1, 75), (1, 49, 457)), ((1, 81), (2, 74, 458)), ((1, 52), (2, 75, 463)), ((1, 92), (0, 4, 467)), ((1, 98), (1, 64, 468)), ((1, 84), (1, 62, 469)), ((1, 101), (1, 68, 470)), ((1, 59), (1, 40, 471)), ((1, 63), (2, 76, 472)), ((1, 87), (0, 77, 476)), ((10, 90), (2, 78, 479)), ((4, 155), (2, 79, 483)), ((10, 131), (0, 80, 487)), ((10, 143), (0, 81, 495)), ((10, 109), (2, 82, 498)), ((4, 103), (2, 83, 502)), ((2, 75), (1, 49, 506)), ((10, 113), (2, 84, 507)), ((4, 109), (0, 85, 511)), ((4, 252), (0, 68, 514)), ((10, 116), (2, 86, 515)), ((4, 124), (2, 87, 519)), ((2, 82), (2, 31, 523)), ((2, 85), (2, 88, 524)), ((4, 127), (0, 89, 528)), ((4, 130), (2, 90, 531)), ((2, 71), (2, 91, 535)), ((2, 79), (1, 40, 539)), ((10, 119), (2, 92, 540)), ((10, 122), (2, 93, 544)), ((4, 139), (2, 91, 548)), ((10, 125), (2, 94, 549)), ((4, 161), (2, 95, 553)), ((4, 164), (2, 96, 557)), ((4, 167), (2, 97, 561)), ((4, 182), (2, 74, 565)), ((4, 185), (0, 98, 566)), ((5, 21), (2, 11, 569)), ((5, 44), (2, 95, 570)), ((5, 48), (0, 99, 571)), ((5, 15), (2, 13, 574)), ((5, 52), (2, 74, 575)), ((4, 195), (2, 100, 576)), ((4, 207), (2, 101, 580)), ((4, 151), (2, 102, 584)), ((1, 104), (2, 103, 588)), ((1, 108), (0, 67, 592)), ((1, 113), (1, 52, 593)), ((1, 119), (2, 101, 594)), ((10, 150), (0, 104, 595)), ((10, 128), (2, 105, 598)), ((4, 142), (0, 106, 602)), ((5, 9), (0, 107, 605)), ((5, 36), (0, 108, 608))]
def xW : List (Nat × Nat × Nat × Nat) := [(4, 32, 6, 115), (4, 39, 7, 145), (6, 19, 40, 389), (6, 26, 52, 390), (6, 39, 49, 396), (6, 64, 68, 431), (1, 75, 49, 457), (1, 98, 64, 468), (1, 84, 62, 469), (1, 101, 68, 470), (1, 59, 40, 471), (2, 75, 49, 506), (2, 79, 40, 539), (1, 113, 52, 593)]
/-- places in lw_tbl: initialized, static or instanceMethod, selects -/
def xw : List (Nat × Nat × Nat) := [(11, 25, 0), (10, 28, 0), (12, 33, 0), (12, 37, 38), (13, 41, 0), (14, 110, 0), (15, 126, 0), (16, 156, 0), (11, 213, 214), (11, 218, 0), (12, 221, 222), (12, 225, 226), (11, 229, 0), (12, 232, 233), (12, 236, 237), (12, 240, 241), (14, 244, 245), (14, 249, 1), (12, 252, 253), (12, 259, 260), (11, 263, 264), (11, 267, 268), (14, 271, 272), (10, 275, 0), (10, 280, 0), (10, 284, 0), (10, 287, 0), (11, 290, 291), (12, 294, 295), (11, 298, 299), (11, 302, 303), (12, 306, 307), (10, 310, 0), (11, 313, 314), (11, 318, 319), (11, 322, 323), (12, 326, 327), (10, 330, 0), (11, 333, 334), (11, 337, 0), (11, 340, 0), (10, 343, 0), (11, 346, 347), (10, 350, 0), (10, 353, 0), (11, 356, 357), (11, 360, 361), (12, 364, 365), (11, 368, 0), (11, 371, 0), (11, 374, 375), (11, 378, 379), (11, 382, 0), (12, 385, 386), (11, 389, 390), (17, 393, 0), (17, 396, 0), (17, 402, 0), (17, 408, 0), (10, 411, 0), (11, 414, 415), (11, 418, 0), (11, 421, 0), (11, 424, 0), (11, 427, 0), (18, 430, 0), (17, 436, 0), (17, 439, 0), (11, 442, 0), (17, 445, 0), (11, 448, 449), (15, 452, 453), (15, 459, 2), (15, 463, 3), (12, 469, 470), (15, 475, 4), (15, 484, 5), (19, 487, 0), (11, 490, 491), (12, 494, 495), (10, 498, 0), (10, 506, 0), (11, 509, 510), (12, 513, 514), (11, 518, 519), (11, 522, 0), (11, 526, 527), (12, 530, 531), (12, 535, 536), (11, 539, 0), (12, 542, 543), (12, 546, 547), (11, 551, 552), (11, 555, 556), (11, 560, 561), (12, 564, 565), (11, 569, 6), (11, 573, 7), (21, 577, 0), (21, 582, 0), (11, 588, 8), (12, 591, 592), (15, 595, 596), (15, 600, 9), (10, 606, 0), (11, 609, 610), (21, 613, 0), (21, 616, 0), (19, 619, 0)]
def xinst : List Nat := [98, 114, 21, 144, 13]
def xini : List Nat := [4, 5, 2, 6, 1]
end
section
/-! what the tables' places say, decided once -/
def x1 (i : Nat) : Cond := (tables_1[i]?).getD .tt
def xb (i : Nat) : Cond := (lw_tbl[i]?).getD .tt
theorem x1_mem {i : Nat} {w : Cond} (h : tables_1[i]? = some w) : w ∈ lw_tbl := List.mem_append_right _ (List.mem_of_getElem? h)
theorem xb_mem {i : Nat} {w : Cond} (h : lw_tbl[i]? = some w) : w ∈ lw_tbl := List.mem_of_getElem? h
/-- the good words -/
def gW : List Cond := lw_tbl.filter goodWord
theorem gW_of {w : Cond} (h : w ∈ lw_tbl) (g : goodWord w = true) : w ∈ gW := List.mem_filter.mpr ⟨h, g⟩
theorem gW_in {w : Cond} (h : w ∈ gW) : w ∈ lw_tbl := (List.mem_filter.mp h).1
theorem gW_good {w : Cond} (h : w ∈ gW) : goodWord w = true := (List.mem_filter.mp h).2
theorem xlay_ok : ∀ i, i < 38 → tables_1[xlay.getD i 0]? = some ((([0, 1, 2, 3, 4] : List Nat).flatMap fun c => (List.range (xN c)).map (u_lay (xC c) (xT c))).getD i .tt) := by decide +kernel
theorem xlay_good : ((([0, 1, 2, 3, 4] : List Nat).flatMap fun c => (List.range (xN c)).map (u_lay (xC c) (xT c)))).all goodWord = true := by decide +kernel
theorem xlay_len : (([0, 1, 2, 3, 4] : List Nat).flatMap fun c => (List.range (xN c)).map (u_lay (xC c) (xT c))).length = 38 := by decide +kernel
theorem xt_ok : ∀ c, c < 5 → ∀ k, k < xN c → parseFieldDescriptor (xT c k).2.2.1 = some (xt c k) := by decide +kernel
theorem xn_ok : ∀ c, c < 5 → ∀ a, a < xN c → ∀ b, b < xN c → a ≠ b → (xT c a).2.1 ≠ (xT c b).2.1 := by decide +kernel
theorem xF_ok : xF.all (fun q => decide (tables_1[q.2.2.2]? = some (.fieldLink (xC q.1.1) q.1.2 (xC q.2.1) (xT q.2.1 q.2.2.1).2.1 (xT q.2.1 q.2.2.1).2.2.1)) && goodWord (.fieldLink (xC q.1.1) q.1.2 (xC q.2.1) (xT q.2.1 q.2.2.1).2.1 (xT q.2.1 q.2.2.1).2.2.1) && decide (q.2.1 < 5) && decide (q.2.2.1 < xN q.2.1) && decide ((xT q.2.1 q.2.2.1).1 = xC q.2.1)) = true := by decide +kernel
theorem xK_ok : xK.all (fun q => decide (tables_1[q.2.2]? = some (.classLink (xC q.1.1) q.1.2 (xC q.2.1))) && goodWord (.classLink (xC q.1.1) q.1.2 (xC q.2.1)) && decide (q.2.1 < 5)) = true := by decide +kernel
theorem xV_ok : xV.all (fun q => decide (tables_1[q.2.2]? = some (.constant (xC q.1.1) q.1.2 q.2.1)) && goodWord (.constant (xC q.1.1) q.1.2 q.2.1)) = true := by decide +kernel
theorem xVL_ok : xVL.all (fun q => decide (tables_1[q.2.2]? = some (.constantLong (xC q.1.1) q.1.2 q.2.1)) && goodWord (.constantLong (xC q.1.1) q.1.2 q.2.1)) = true := by decide +kernel
theorem xc_0 : tables_1[16]? = some (.code (mY 0) (mB 0) (mL 0) (mR 0)) := by decide +kernel
theorem xc_1 : tables_1[19]? = some (.code (mY 1) (mB 1) (mL 1) (mR 1)) := by decide +kernel
theorem xc_2 : tables_1[24]? = some (.code (mY 2) (mB 2) (mL 2) (mR 2)) := by decide +kernel
theorem xc_3 : tables_1[29]? = some (.code (mY 3) (mB 3) (mL 3) (mR 3)) := by decide +kernel
theorem xc_4 : tables_1[32]? = some (.code (mY 4) (mB 4) (mL 4) (mR 4)) := by decide +kernel
theorem xc_5 : tables_1[101]? = some (.code (mY 5) (mB 5) (mL 5) (mR 5)) := by decide +kernel
theorem xc_6 : tables_1[117]? = some (.code (mY 6) (mB 6) (mL 6) (mR 6)) := by decide +kernel
theorem xc_7 : tables_1[147]? = some (.code (mY 7) (mB 7) (mL 7) (mR 7)) := by decide +kernel
theorem xc_8 : tables_1[205]? = some (.code (mY 8) (mB 8) (mL 8) (mR 8)) := by decide +kernel
theorem xc_9 : tables_1[209]? = some (.code (mY 9) (mB 9) (mL 9) (mR 9)) := by decide +kernel
theorem xc_10 : tables_1[213]? = some (.code (mY 10) (mB 10) (mL 10) (mR 10)) := by decide +kernel
theorem xc_11 : tables_1[217]? = some (.code (mY 11) (mB 11) (mL 11) (mR 11)) := by decide +kernel
theorem xc_12 : tables_1[220]? = some (.code (mY 12) (mB 12) (mL 12) (mR 12)) := by decide +kernel
theorem xc_13 : tables_1[224]? = some (.code (mY 13) (mB 13) (mL 13) (mR 13)) := by decide +kernel
theorem xc_14 : tables_1[228]? = some (.code (mY 14) (mB 14) (mL 14) (mR 14)) := by decide +kernel
theorem xc_15 : tables_1[232]? = some (.code (mY 15) (mB 15) (mL 15) (mR 15)) := by decide +kernel
theorem xc_16 : tables_1[236]? = some (.code (mY 16) (mB 16) (mL 16) (mR 16)) := by decide +kernel
theorem xc_17 : tables_1[240]? = some (.code (mY 17) (mB 17) (mL 17) (mR 17)) := by decide +kernel
theorem xc_18 : tables_1[244]? = some (.code (mY 18) (mB 18) (mL 18) (mR 18)) := by decide +kernel
theorem xc_19 : tables_1[251]? = some (.code (mY 19) (mB 19) (mL 19) (mR 19)) := by decide +kernel
theorem xc_20 : tables_1[255]? = some (.code (mY 20) (mB 20) (mL 20) (mR 20)) := by decide +kernel
theorem xc_21 : tables_1[259]? = some (.code (mY 21) (mB 21) (mL 21) (mR 21)) := by decide +kernel
theorem xc_22 : tables_1[263]? = some (.code (mY 22) (mB 22) (mL 22) (mR 22)) := by decide +kernel
theorem xc_23 : tables_1[266]? = some (.code (mY 23) (mB 23) (mL 23) (mR 23)) := by decide +kernel
theorem xc_24 : tables_1[271]? = some (.code (mY 24) (mB 24) (mL 24) (mR 24)) := by decide +kernel
theorem xc_25 : tables_1[275]? = some (.code (mY 25) (mB 25) (mL 25) (mR 25)) := by decide +kernel
theorem xc_26 : tables_1[278]? = some (.code (mY 26) (mB 26) (mL 26) (mR 26)) := by decide +kernel
theorem xc_27 : tables_1[282]? = some (.code (mY 27) (mB 27) (mL 27) (mR 27)) := by decide +kernel
theorem xc_28 : tables_1[286]? = some (.code (mY 28) (mB 28) (mL 28) (mR 28)) := by decide +kernel
theorem xc_29 : tables_1[290]? = some (.code (mY 29) (mB 29) (mL 29) (mR 29)) := by decide +kernel
theorem xc_30 : tables_1[294]? = some (.code (mY 30) (mB 30) (mL 30) (mR 30)) := by decide +kernel
theorem xc_31 : tables_1[298]? = some (.code (mY 31) (mB 31) (mL 31) (mR 31)) := by decide +kernel
theorem xc_32 : tables_1[301]? = some (.code (mY 32) (mB 32) (mL 32) (mR 32)) := by decide +kernel
theorem xc_33 : tables_1[305]? = some (.code (mY 33) (mB 33) (mL 33) (mR 33)) := by decide +kernel
theorem xc_34 : tables_1[310]? = some (.code (mY 34) (mB 34) (mL 34) (mR 34)) := by decide +kernel
theorem xc_35 : tables_1[314]? = some (.code (mY 35) (mB 35) (mL 35) (mR 35)) := by decide +kernel
theorem xc_36 : tables_1[318]? = some (.code (mY 36) (mB 36) (mL 36) (mR 36)) := by decide +kernel
theorem xc_37 : tables_1[321]? = some (.code (mY 37) (mB 37) (mL 37) (mR 37)) := by decide +kernel
theorem xc_38 : tables_1[325]? = some (.code (mY 38) (mB 38) (mL 38) (mR 38)) := by decide +kernel
theorem xc_39 : tables_1[328]? = some (.code (mY 39) (mB 39) (mL 39) (mR 39)) := by decide +kernel
theorem xc_40 : tables_1[331]? = some (.code (mY 40) (mB 40) (mL 40) (mR 40)) := by decide +kernel
theorem xc_41 : tables_1[334]? = some (.code (mY 41) (mB 41) (mL 41) (mR 41)) := by decide +kernel
theorem xc_42 : tables_1[338]? = some (.code (mY 42) (mB 42) (mL 42) (mR 42)) := by decide +kernel
theorem xc_43 : tables_1[341]? = some (.code (mY 43) (mB 43) (mL 43) (mR 43)) := by decide +kernel
theorem xc_44 : tables_1[344]? = some (.code (mY 44) (mB 44) (mL 44) (mR 44)) := by decide +kernel
theorem xc_45 : tables_1[348]? = some (.code (mY 45) (mB 45) (mL 45) (mR 45)) := by decide +kernel
theorem xc_46 : tables_1[352]? = some (.code (mY 46) (mB 46) (mL 46) (mR 46)) := by decide +kernel
theorem xc_47 : tables_1[356]? = some (.code (mY 47) (mB 47) (mL 47) (mR 47)) := by decide +kernel
theorem xc_48 : tables_1[359]? = some (.code (mY 48) (mB 48) (mL 48) (mR 48)) := by decide +kernel
theorem xc_49 : tables_1[362]? = some (.code (mY 49) (mB 49) (mL 49) (mR 49)) := by decide +kernel
theorem xc_50 : tables_1[366]? = some (.code (mY 50) (mB 50) (mL 50) (mR 50)) := by decide +kernel
theorem xc_51 : tables_1[370]? = some (.code (mY 51) (mB 51) (mL 51) (mR 51)) := by decide +kernel
theorem xc_52 : tables_1[373]? = some (.code (mY 52) (mB 52) (mL 52) (mR 52)) := by decide +kernel
theorem xc_53 : tables_1[377]? = some (.code (mY 53) (mB 53) (mL 53) (mR 53)) := by decide +kernel
theorem xc_54 : tables_1[381]? = some (.code (mY 54) (mB 54) (mL 54) (mR 54)) := by decide +kernel
theorem xc_55 : tables_1[384]? = some (.code (mY 55) (mB 55) (mL 55) (mR 55)) := by decide +kernel
theorem xc_56 : tables_1[387]? = some (.code (mY 56) (mB 56) (mL 56) (mR 56)) := by decide +kernel
theorem xc_57 : tables_1[393]? = some (.code (mY 57) (mB 57) (mL 57) (mR 57)) := by decide +kernel
theorem xc_58 : tables_1[399]? = some (.code (mY 58) (mB 58) (mL 58) (mR 58)) := by decide +kernel
theorem xc_59 : tables_1[402]? = some (.code (mY 59) (mB 59) (mL 59) (mR 59)) := by decide +kernel
theorem xc_60 : tables_1[406]? = some (.code (mY 60) (mB 60) (mL 60) (mR 60)) := by decide +kernel
theorem xc_61 : tables_1[409]? = some (.code (mY 61) (mB 61) (mL 61) (mR 61)) := by decide +kernel
theorem xc_62 : tables_1[412]? = some (.code (mY 62) (mB 62) (mL 62) (mR 62)) := by decide +kernel
theorem xc_63 : tables_1[415]? = some (.code (mY 63) (mB 63) (mL 63) (mR 63)) := by decide +kernel
theorem xc_64 : tables_1[418]? = some (.code (mY 64) (mB 64) (mL 64) (mR 64)) := by decide +kernel
theorem xc_65 : tables_1[421]? = some (.code (mY 65) (mB 65) (mL 65) (mR 65)) := by decide +kernel
theorem xc_66 : tables_1[427]? = some (.code (mY 66) (mB 66) (mL 66) (mR 66)) := by decide +kernel
theorem xc_67 : tables_1[430]? = some (.code (mY 67) (mB 67) (mL 67) (mR 67)) := by decide +kernel
theorem xc_68 : tables_1[433]? = some (.code (mY 68) (mB 68) (mL 68) (mR 68)) := by decide +kernel
theorem xc_69 : tables_1[436]? = some (.code (mY 69) (mB 69) (mL 69) (mR 69)) := by decide +kernel
theorem xc_70 : tables_1[440]? = some (.code (mY 70) (mB 70) (mL 70) (mR 70)) := by decide +kernel
theorem xc_71 : tables_1[444]? = some (.code (mY 71) (mB 71) (mL 71) (mR 71)) := by decide +kernel
theorem xc_72 : tables_1[450]? = some (.code (mY 72) (mB 72) (mL 72) (mR 72)) := by decide +kernel
theorem xc_73 : tables_1[454]? = some (.code (mY 73) (mB 73) (mL 73) (mR 73)) := by decide +kernel
theorem xc_74 : tables_1[461]? = some (.code (mY 74) (mB 74) (mL 74) (mR 74)) := by decide +kernel
theorem xc_75 : tables_1[466]? = some (.code (mY 75) (mB 75) (mL 75) (mR 75)) := by decide +kernel
theorem xc_76 : tables_1[475]? = some (.code (mY 76) (mB 76) (mL 76) (mR 76)) := by decide +kernel
theorem xc_77 : tables_1[478]? = some (.code (mY 77) (mB 77) (mL 77) (mR 77)) := by decide +kernel
theorem xc_78 : tables_1[482]? = some (.code (mY 78) (mB 78) (mL 78) (mR 78)) := by decide +kernel
theorem xc_79 : tables_1[486]? = some (.code (mY 79) (mB 79) (mL 79) (mR 79)) := by decide +kernel
theorem xc_80 : tables_1[489]? = some (.code (mY 80) (mB 80) (mL 80) (mR 80)) := by decide +kernel
theorem xc_81 : tables_1[497]? = some (.code (mY 81) (mB 81) (mL 81) (mR 81)) := by decide +kernel
theorem xc_82 : tables_1[501]? = some (.code (mY 82) (mB 82) (mL 82) (mR 82)) := by decide +kernel
theorem xc_83 : tables_1[505]? = some (.code (mY 83) (mB 83) (mL 83) (mR 83)) := by decide +kernel
theorem xc_84 : tables_1[510]? = some (.code (mY 84) (mB 84) (mL 84) (mR 84)) := by decide +kernel
theorem xc_85 : tables_1[513]? = some (.code (mY 85) (mB 85) (mL 85) (mR 85)) := by decide +kernel
theorem xc_86 : tables_1[518]? = some (.code (mY 86) (mB 86) (mL 86) (mR 86)) := by decide +kernel
theorem xc_87 : tables_1[522]? = some (.code (mY 87) (mB 87) (mL 87) (mR 87)) := by decide +kernel
theorem xc_88 : tables_1[527]? = some (.code (mY 88) (mB 88) (mL 88) (mR 88)) := by decide +kernel
theorem xc_89 : tables_1[530]? = some (.code (mY 89) (mB 89) (mL 89) (mR 89)) := by decide +kernel
theorem xc_90 : tables_1[534]? = some (.code (mY 90) (mB 90) (mL 90) (mR 90)) := by decide +kernel
theorem xc_91 : tables_1[538]? = some (.code (mY 91) (mB 91) (mL 91) (mR 91)) := by decide +kernel
theorem xc_92 : tables_1[543]? = some (.code (mY 92) (mB 92) (mL 92) (mR 92)) := by decide +kernel
theorem xc_93 : tables_1[547]? = some (.code (mY 93) (mB 93) (mL 93) (mR 93)) := by decide +kernel
theorem xc_94 : tables_1[552]? = some (.code (mY 94) (mB 94) (mL 94) (mR 94)) := by decide +kernel
theorem xc_95 : tables_1[556]? = some (.code (mY 95) (mB 95) (mL 95) (mR 95)) := by decide +kernel
theorem xc_96 : tables_1[560]? = some (.code (mY 96) (mB 96) (mL 96) (mR 96)) := by decide +kernel
theorem xc_97 : tables_1[564]? = some (.code (mY 97) (mB 97) (mL 97) (mR 97)) := by decide +kernel
theorem xc_98 : tables_1[568]? = some (.code (mY 98) (mB 98) (mL 98) (mR 98)) := by decide +kernel
theorem xc_99 : tables_1[573]? = some (.code (mY 99) (mB 99) (mL 99) (mR 99)) := by decide +kernel
theorem xc_100 : tables_1[579]? = some (.code (mY 100) (mB 100) (mL 100) (mR 100)) := by decide +kernel
theorem xc_101 : tables_1[583]? = some (.code (mY 101) (mB 101) (mL 101) (mR 101)) := by decide +kernel
theorem xc_102 : tables_1[587]? = some (.code (mY 102) (mB 102) (mL 102) (mR 102)) := by decide +kernel
theorem xc_103 : tables_1[591]? = some (.code (mY 103) (mB 103) (mL 103) (mR 103)) := by decide +kernel
theorem xc_104 : tables_1[597]? = some (.code (mY 104) (mB 104) (mL 104) (mR 104)) := by decide +kernel
theorem xc_105 : tables_1[601]? = some (.code (mY 105) (mB 105) (mL 105) (mR 105)) := by decide +kernel
theorem xc_106 : tables_1[604]? = some (.code (mY 106) (mB 106) (mL 106) (mR 106)) := by decide +kernel
theorem xc_107 : tables_1[607]? = some (.code (mY 107) (mB 107) (mL 107) (mR 107)) := by decide +kernel
theorem xc_108 : tables_1[610]? = some (.code (mY 108) (mB 108) (mL 108) (mR 108)) := by decide +kernel
def xcP (k : Nat) : Prop := Cond.code (mY k) (mB k) (mL k) (mR k) ∈ tables_1
theorem xcB_0 (h : ∀ k, k < 0 → xcP k) : ∀ k, k < 16 → xcP k := by
  have h : ∀ k, k < 1 → xcP k := lt_s h (List.mem_of_getElem? xc_0)
  have h : ∀ k, k < 2 → xcP k := lt_s h (List.mem_of_getElem? xc_1)
  have h : ∀ k, k < 3 → xcP k := lt_s h (List.mem_of_getElem? xc_2)
  have h : ∀ k, k < 4 → xcP k := lt_s h (List.mem_of_getElem? xc_3)
  have h : ∀ k, k < 5 → xcP k := lt_s h (List.mem_of_getElem? xc_4)
  have h : ∀ k, k < 6 → xcP k := lt_s h (List.mem_of_getElem? xc_5)
  have h : ∀ k, k < 7 → xcP k := lt_s h (List.mem_of_getElem? xc_6)
  have h : ∀ k, k < 8 → xcP k := lt_s h (List.mem_of_getElem? xc_7)
  have h : ∀ k, k < 9 → xcP k := lt_s h (List.mem_of_getElem? xc_8)
  have h : ∀ k, k < 10 → xcP k := lt_s h (List.mem_of_getElem? xc_9)
  have h : ∀ k, k < 11 → xcP k := lt_s h (List.mem_of_getElem? xc_10)
  have h : ∀ k, k < 12 → xcP k := lt_s h (List.mem_of_getElem? xc_11)
  have h : ∀ k, k < 13 → xcP k := lt_s h (List.mem_of_getElem? xc_12)
  have h : ∀ k, k < 14 → xcP k := lt_s h (List.mem_of_getElem? xc_13)
  have h : ∀ k, k < 15 → xcP k := lt_s h (List.mem_of_getElem? xc_14)
  have h : ∀ k, k < 16 → xcP k := lt_s h (List.mem_of_getElem? xc_15)
  exact h
theorem xcB_16 (h : ∀ k, k < 16 → xcP k) : ∀ k, k < 32 → xcP k := by
  have h : ∀ k, k < 17 → xcP k := lt_s h (List.mem_of_getElem? xc_16)
  have h : ∀ k, k < 18 → xcP k := lt_s h (List.mem_of_getElem? xc_17)
  have h : ∀ k, k < 19 → xcP k := lt_s h (List.mem_of_getElem? xc_18)
  have h : ∀ k, k < 20 → xcP k := lt_s h (List.mem_of_getElem? xc_19)
  have h : ∀ k, k < 21 → xcP k := lt_s h (List.mem_of_getElem? xc_20)
  have h : ∀ k, k < 22 → xcP k := lt_s h (List.mem_of_getElem? xc_21)
  have h : ∀ k, k < 23 → xcP k := lt_s h (List.mem_of_getElem? xc_22)
  have h : ∀ k, k < 24 → xcP k := lt_s h (List.mem_of_getElem? xc_23)
  have h : ∀ k, k < 25 → xcP k := lt_s h (List.mem_of_getElem? xc_24)
  have h : ∀ k, k < 26 → xcP k := lt_s h (List.mem_of_getElem? xc_25)
  have h : ∀ k, k < 27 → xcP k := lt_s h (List.mem_of_getElem? xc_26)
  have h : ∀ k, k < 28 → xcP k := lt_s h (List.mem_of_getElem? xc_27)
  have h : ∀ k, k < 29 → xcP k := lt_s h (List.mem_of_getElem? xc_28)
  have h : ∀ k, k < 30 → xcP k := lt_s h (List.mem_of_getElem? xc_29)
  have h : ∀ k, k < 31 → xcP k := lt_s h (List.mem_of_getElem? xc_30)
  have h : ∀ k, k < 32 → xcP k := lt_s h (List.mem_of_getElem? xc_31)
  exact h
theorem xcB_32 (h : ∀ k, k < 32 → xcP k) : ∀ k, k < 48 → xcP k := by
  have h : ∀ k, k < 33 → xcP k := lt_s h (List.mem_of_getElem? xc_32)
  have h : ∀ k, k < 34 → xcP k := lt_s h (List.mem_of_getElem? xc_33)
  have h : ∀ k, k < 35 → xcP k := lt_s h (List.mem_of_getElem? xc_34)
  have h : ∀ k, k < 36 → xcP k := lt_s h (List.mem_of_getElem? xc_35)
  have h : ∀ k, k < 37 → xcP k := lt_s h (List.mem_of_getElem? xc_36)
  have h : ∀ k, k < 38 → xcP k := lt_s h (List.mem_of_getElem? xc_37)
  have h : ∀ k, k < 39 → xcP k := lt_s h (List.mem_of_getElem? xc_38)
  have h : ∀ k, k < 40 → xcP k := lt_s h (List.mem_of_getElem? xc_39)
  have h : ∀ k, k < 41 → xcP k := lt_s h (List.mem_of_getElem? xc_40)
  have h : ∀ k, k < 42 → xcP k := lt_s h (List.mem_of_getElem? xc_41)
  have h : ∀ k, k < 43 → xcP k := lt_s h (List.mem_of_getElem? xc_42)
  have h : ∀ k, k < 44 → xcP k := lt_s h (List.mem_of_getElem? xc_43)
  have h : ∀ k, k < 45 → xcP k := lt_s h (List.mem_of_getElem? xc_44)
  have h : ∀ k, k < 46 → xcP k := lt_s h (List.mem_of_getElem? xc_45)
  have h : ∀ k, k < 47 → xcP k := lt_s h (List.mem_of_getElem? xc_46)
  have h : ∀ k, k < 48 → xcP k := lt_s h (List.mem_of_getElem? xc_47)
  exact h
theorem xcB_48 (h : ∀ k, k < 48 → xcP k) : ∀ k, k < 64 → xcP k := by
  have h : ∀ k, k < 49 → xcP k := lt_s h (List.mem_of_getElem? xc_48)
  have h : ∀ k, k < 50 → xcP k := lt_s h (List.mem_of_getElem? xc_49)
  have h : ∀ k, k < 51 → xcP k := lt_s h (List.mem_of_getElem? xc_50)
  have h : ∀ k, k < 52 → xcP k := lt_s h (List.mem_of_getElem? xc_51)
  have h : ∀ k, k < 53 → xcP k := lt_s h (List.mem_of_getElem? xc_52)
  have h : ∀ k, k < 54 → xcP k := lt_s h (List.mem_of_getElem? xc_53)
  have h : ∀ k, k < 55 → xcP k := lt_s h (List.mem_of_getElem? xc_54)
  have h : ∀ k, k < 56 → xcP k := lt_s h (List.mem_of_getElem? xc_55)
  have h : ∀ k, k < 57 → xcP k := lt_s h (List.mem_of_getElem? xc_56)
  have h : ∀ k, k < 58 → xcP k := lt_s h (List.mem_of_getElem? xc_57)
  have h : ∀ k, k < 59 → xcP k := lt_s h (List.mem_of_getElem? xc_58)
  have h : ∀ k, k < 60 → xcP k := lt_s h (List.mem_of_getElem? xc_59)
  have h : ∀ k, k < 61 → xcP k := lt_s h (List.mem_of_getElem? xc_60)
  have h : ∀ k, k < 62 → xcP k := lt_s h (List.mem_of_getElem? xc_61)
  have h : ∀ k, k < 63 → xcP k := lt_s h (List.mem_of_getElem? xc_62)
  have h : ∀ k, k < 64 → xcP k := lt_s h (List.mem_of_getElem? xc_63)
  exact h
theorem xcB_64 (h : ∀ k, k < 64 → xcP k) : ∀ k, k < 80 → xcP k := by
  have h : ∀ k, k < 65 → xcP k := lt_s h (List.mem_of_getElem? xc_64)
  have h : ∀ k, k < 66 → xcP k := lt_s h (List.mem_of_getElem? xc_65)
  have h : ∀ k, k < 67 → xcP k := lt_s h (List.mem_of_getElem? xc_66)
  have h : ∀ k, k < 68 → xcP k := lt_s h (List.mem_of_getElem? xc_67)
  have h : ∀ k, k < 69 → xcP k := lt_s h (List.mem_of_getElem? xc_68)
  have h : ∀ k, k < 70 → xcP k := lt_s h (List.mem_of_getElem? xc_69)
  have h : ∀ k, k < 71 → xcP k := lt_s h (List.mem_of_getElem? xc_70)
  have h : ∀ k, k < 72 → xcP k := lt_s h (List.mem_of_getElem? xc_71)
  have h : ∀ k, k < 73 → xcP k := lt_s h (List.mem_of_getElem? xc_72)
  have h : ∀ k, k < 74 → xcP k := lt_s h (List.mem_of_getElem? xc_73)
  have h : ∀ k, k < 75 → xcP k := lt_s h (List.mem_of_getElem? xc_74)
  have h : ∀ k, k < 76 → xcP k := lt_s h (List.mem_of_getElem? xc_75)
  have h : ∀ k, k < 77 → xcP k := lt_s h (List.mem_of_getElem? xc_76)
  have h : ∀ k, k < 78 → xcP k := lt_s h (List.mem_of_getElem? xc_77)
  have h : ∀ k, k < 79 → xcP k := lt_s h (List.mem_of_getElem? xc_78)
  have h : ∀ k, k < 80 → xcP k := lt_s h (List.mem_of_getElem? xc_79)
  exact h
theorem xcB_80 (h : ∀ k, k < 80 → xcP k) : ∀ k, k < 96 → xcP k := by
  have h : ∀ k, k < 81 → xcP k := lt_s h (List.mem_of_getElem? xc_80)
  have h : ∀ k, k < 82 → xcP k := lt_s h (List.mem_of_getElem? xc_81)
  have h : ∀ k, k < 83 → xcP k := lt_s h (List.mem_of_getElem? xc_82)
  have h : ∀ k, k < 84 → xcP k := lt_s h (List.mem_of_getElem? xc_83)
  have h : ∀ k, k < 85 → xcP k := lt_s h (List.mem_of_getElem? xc_84)
  have h : ∀ k, k < 86 → xcP k := lt_s h (List.mem_of_getElem? xc_85)
  have h : ∀ k, k < 87 → xcP k := lt_s h (List.mem_of_getElem? xc_86)
  have h : ∀ k, k < 88 → xcP k := lt_s h (List.mem_of_getElem? xc_87)
  have h : ∀ k, k < 89 → xcP k := lt_s h (List.mem_of_getElem? xc_88)
  have h : ∀ k, k < 90 → xcP k := lt_s h (List.mem_of_getElem? xc_89)
  have h : ∀ k, k < 91 → xcP k := lt_s h (List.mem_of_getElem? xc_90)
  have h : ∀ k, k < 92 → xcP k := lt_s h (List.mem_of_getElem? xc_91)
  have h : ∀ k, k < 93 → xcP k := lt_s h (List.mem_of_getElem? xc_92)
  have h : ∀ k, k < 94 → xcP k := lt_s h (List.mem_of_getElem? xc_93)
  have h : ∀ k, k < 95 → xcP k := lt_s h (List.mem_of_getElem? xc_94)
  have h : ∀ k, k < 96 → xcP k := lt_s h (List.mem_of_getElem? xc_95)
  exact h
theorem xcB_96 (h : ∀ k, k < 96 → xcP k) : ∀ k, k < 109 → xcP k := by
  have h : ∀ k, k < 97 → xcP k := lt_s h (List.mem_of_getElem? xc_96)
  have h : ∀ k, k < 98 → xcP k := lt_s h (List.mem_of_getElem? xc_97)
  have h : ∀ k, k < 99 → xcP k := lt_s h (List.mem_of_getElem? xc_98)
  have h : ∀ k, k < 100 → xcP k := lt_s h (List.mem_of_getElem? xc_99)
  have h : ∀ k, k < 101 → xcP k := lt_s h (List.mem_of_getElem? xc_100)
  have h : ∀ k, k < 102 → xcP k := lt_s h (List.mem_of_getElem? xc_101)
  have h : ∀ k, k < 103 → xcP k := lt_s h (List.mem_of_getElem? xc_102)
  have h : ∀ k, k < 104 → xcP k := lt_s h (List.mem_of_getElem? xc_103)
  have h : ∀ k, k < 105 → xcP k := lt_s h (List.mem_of_getElem? xc_104)
  have h : ∀ k, k < 106 → xcP k := lt_s h (List.mem_of_getElem? xc_105)
  have h : ∀ k, k < 107 → xcP k := lt_s h (List.mem_of_getElem? xc_106)
  have h : ∀ k, k < 108 → xcP k := lt_s h (List.mem_of_getElem? xc_107)
  have h : ∀ k, k < 109 → xcP k := lt_s h (List.mem_of_getElem? xc_108)
  exact h
theorem xcode_ok : ∀ k, k < 109 → xcP k := (xcB_96 (xcB_80 (xcB_64 (xcB_48 (xcB_32 (xcB_16 (xcB_0 lt_0)))))))
theorem xinst_ok : ∀ c, c < 5 → tables_1[xinst.getD c 0]? = some (.instantiable (xC c) (xN c)) := by decide +kernel
theorem xini_ok : ∀ c, c < 5 → tables_1[xini.getD c 0]? = some (.initialized (xC c)) := by decide +kernel
end
section
/-! AN ABSTRACT MACHINE of the program: values are ints, numbers of cells and longs, a heap is a size, tags, ints and references.
Tags: 0 .. 4 an object of class xC; 10 int[], 11 char[], 13 Rack[] with the length; 20 the script. -/
abbrev AV := Int32 ⊕ (Option Nat ⊕ Int64)
abbrev AH := (Nat × Nat) × (Nat → Nat × Nat) × (Nat → Nat → Int32) × (Nat → Nat → Option Nat)
abbrev RS := (Nat × List AV × List AV × AH) ⊕ ((Option AV × AH) ⊕ (Nat × List AV × List AV))
def SC : Nat := 1000000
def isP : FieldType → Bool
  | .int => true
  | .boolean => true
  | _ => false
/-- what the field f of the cell r, of class c, holds -/
def fv (A : AH) (c r f : Nat) : AV := if isP (xt c f) then .inl (A.2.2.1 r f) else .inr (.inl (A.2.2.2 r f))
def u2 {α : Type} (m : Nat → Nat → α) (a i : Nat) (x : α) : Nat → Nat → α := fun a' i' => if a' = a then (if i' = i then x else m a i') else m a' i'
def sI (A : AH) (a i : Nat) (x : Int32) : AH := (A.1, A.2.1, u2 A.2.2.1 a i x, A.2.2.2)
def sR (A : AH) (a i : Nat) (x : Option Nat) : AH := (A.1, A.2.1, A.2.2.1, u2 A.2.2.2 a i x)
def nw (A : AH) (t : Nat × Nat) (w : Nat) : AH := ((A.1.1 + 1, A.1.2 + w), fun k => if k = A.1.1 then t else A.2.1 k, fun a i => if a = A.1.1 then 0 else A.2.2.1 a i, fun a i => if a = A.1.1 then none else A.2.2.2 a i)
def cpA (A : AH) (a0 a sp dp n : Nat) : AH := (A.1, A.2.1, fun a' i' => if a' = a then va_cpy (A.2.2.1 a0) (A.2.2.1 a) sp dp n i' else A.2.2.1 a' i', A.2.2.2)
def rg (pc : Nat) (L st : List AV) (A : AH) : Option RS := some (.inl (pc, L, st, A))
def rr (v : Option AV) (A : AH) : Option RS := some (.inr (.inl (v, A)))
def rc (c : Nat) (as rest : List AV) : Option RS := some (.inr (.inr (c, as, rest)))
def hc (c : ClassFile.Cond) (x y : Int32) : Bool := match c with
  | .eq => decide (x = y)
  | .ne => decide (¬ x = y)
  | .lt => decide (x < y)
  | .ge => decide (y ≤ x)
  | .gt => decide (y < x)
  | .le => decide (x ≤ y)
def jmp (pc : Nat) (o : Int) (L st : List AV) (A : AH) : Option RS := if 0 ≤ (pc : Int) + o then rg ((pc : Int) + o).toNat L st A else none
def brf (pc : Nat) (o : Int) (L st : List AV) (A : AH) : Option RS := if 0 ≤ (pc : Int) + o then rg (pc + 3) L st A else none
def okr (k : Nat) (x : Int32) : Bool := match mR k with
  | some .int => true
  | some .boolean => x == 0 || x == 1
  | _ => false
def okf (t : FieldType) (v : AV) : Bool := match t, v with
  | .int, .inl _ => true
  | .boolean, .inl x => x == 0 || x == 1
  | .object _, .inr (.inl _) => true
  | .array _, .inr (.inl _) => true
  | _, _ => false
def putf (A : AH) (r f : Nat) (v : AV) : AH := match v with
  | .inl x => sI A r f x
  | .inr (.inl o) => sR A r f o
  | .inr (.inr _) => A
/-- no long -/
def nlg : AV → Bool
  | .inr (.inr _) => false
  | _ => true
/-- the methods that hold longs in their locals -/
def lgm (k : Nat) : Bool := k == 80 || k == 104 || k == 109
/-- what lies below the place i is no long -/
def nlb (L : List AV) (i : Nat) : Bool := match i with
  | 0 => true
  | j + 1 => match L[j]? with
    | some (.inr (.inr _)) => false
    | _ => true
/-- the length of an instruction -/
def il : Instr → Nat
  | .bipush _ => 2 | .sipush _ => 3 | .ldc _ => 2 | .ldc_w _ => 3 | .iload _ => 2 | .aload _ => 2 | .istore _ => 2 | .astore _ => 2 | .iinc _ _ => 3
  | .goto _ => 3 | .ifCond _ _ => 3 | .if_icmp _ _ => 3 | .ifnull _ => 3 | .getfield _ => 3 | .putfield _ => 3 | .invokestatic _ => 3 | .invokevirtual _ => 3 | .invokespecial _ => 3
  | .new _ => 3 | .newarray _ => 2 | .anewarray _ => 3 | .ldc2_w _ => 3 | .lload _ => 2 | .lstore _ => 2
  | _ => 1
def ilok (i : Instr) (len : Nat) : Bool := match i with
  | .tableswitch _ _ _ _ => true
  | i => len == il i
def b2 (st : List AV) (f : Int32 → Int32 → Int32) (pc : Nat) (L : List AV) (A : AH) : Option RS := match st with
  | .inl y :: .inl x :: r => rg (pc + 1) L (.inl (f x y) :: r) A
  | _ => none
def ldI (L : List AV) (i : Nat) (pc : Nat) (st : List AV) (A : AH) : Option RS := match L[i]? with
  | some (.inl x) => rg pc L (.inl x :: st) A
  | _ => none
def ldR (L : List AV) (i : Nat) (pc : Nat) (st : List AV) (A : AH) : Option RS := match L[i]? with
  | some (.inr (.inl (some x))) => rg pc L (.inr (.inl (some x)) :: st) A
  | _ => none
def stI (k : Nat) (L : List AV) (i : Nat) (pc : Nat) (st : List AV) (A : AH) : Option RS := match st with
  | .inl x :: r => if i < L.length ∧ (lgm k = false ∨ nlb L i = true) then rg pc (L.set i (.inl x)) r A else none
  | _ => none
def stR (k : Nat) (L : List AV) (i : Nat) (pc : Nat) (st : List AV) (A : AH) : Option RS := match st with
  | .inr (.inl (some x)) :: r => if i < L.length ∧ (lgm k = false ∨ nlb L i = true) then rg pc (L.set i (.inr (.inl (some x)))) r A else none
  | _ => none
def ldL (L : List AV) (i : Nat) (pc : Nat) (st : List AV) (A : AH) : Option RS := match L[i]? with
  | some (.inr (.inr x)) => rg pc L (.inr (.inr x) :: st) A
  | _ => none
def stL (k : Nat) (L : List AV) (i : Nat) (pc : Nat) (st : List AV) (A : AH) : Option RS := match st with
  | .inr (.inr x) :: r => if i + 1 < L.length ∧ lgm k = true ∧ nlb L i = true then rg pc ((L.set i (.inr (.inr x))).set (i + 1) (.inr (.inl none))) r A else none
  | _ => none
def gtf (k x pc : Nat) (L st : List AV) (A : AH) : Option RS := match xF.lookup (mO k, x), st with
  | some (c, f, _), .inr (.inl (some r)) :: rest => if (A.2.1 r).1 = c then rg (pc + 3) L (fv A c r f :: rest) A else none
  | _, _ => none
def ptf (k x pc : Nat) (L st : List AV) (A : AH) : Option RS := match xF.lookup (mO k, x), st with
  | some (c, f, _), v :: .inr (.inl (some r)) :: rest => if (A.2.1 r).1 = c ∧ okf (xt c f) v = true ∧ ((xT c f).2.2.2 = true → (mY k).name = "<init>" ∧ mO k = c) then rg (pc + 3) L rest (putf A r f v) else none
  | _, _ => none
def inb (i : Int32) (n : Nat) : Prop := 0 ≤ i ∧ i.toNatClampNeg < n
def alen (pc : Nat) (L st : List AV) (A : AH) : Option RS := match st with
  | .inr (.inl (some r)) :: rest => if (A.2.1 r).1 = 10 ∨ (A.2.1 r).1 = 11 ∨ (A.2.1 r).1 = 20 then rg (pc + 1) L (.inl (Int32.ofNat (A.2.1 r).2) :: rest) A else none
  | _ => none
def ald (t : Nat) (pc : Nat) (L st : List AV) (A : AH) : Option RS := match st with
  | .inl i :: .inr (.inl (some r)) :: rest => if ((A.2.1 r).1 = t ∨ (t = 10 ∧ (A.2.1 r).1 = 20)) ∧ 0 ≤ i ∧ i.toNatClampNeg < (A.2.1 r).2 then rg (pc + 1) L (.inl (A.2.2.1 r i.toNatClampNeg) :: rest) A else none
  | _ => none
def ast (t : Nat) (g : Int32 → Int32) (pc : Nat) (L st : List AV) (A : AH) : Option RS := match st with
  | .inl x :: .inl i :: .inr (.inl (some r)) :: rest => if (A.2.1 r).1 = t ∧ 0 ≤ i ∧ i.toNatClampNeg < (A.2.1 r).2 then rg (pc + 1) L rest (sI A r i.toNatClampNeg (g x)) else none
  | _ => none
def aldR (pc : Nat) (L st : List AV) (A : AH) : Option RS := match st with
  | .inl i :: .inr (.inl (some r)) :: rest => if (A.2.1 r).1 = 13 ∧ 0 ≤ i ∧ i.toNatClampNeg < (A.2.1 r).2 then rg (pc + 1) L (.inr (.inl (A.2.2.2 r i.toNatClampNeg)) :: rest) A else none
  | _ => none
def astR (pc : Nat) (L st : List AV) (A : AH) : Option RS := match st with
  | .inr (.inl (some v)) :: .inl i :: .inr (.inl (some r)) :: rest => if (A.2.1 r).1 = 13 ∧ (A.2.1 v).1 = 2 ∧ 0 ≤ i ∧ i.toNatClampNeg < (A.2.1 r).2 then rg (pc + 1) L rest (sR A r i.toNatClampNeg (some v)) else none
  | _ => none
def newO (k x pc : Nat) (L st : List AV) (A : AH) : Option RS := match xK.lookup (mO k, x) with
  | some (c, _) => if A.1.1 + 1 < SC then rg (pc + 3) L (.inr (.inl (some A.1.1)) :: st) (nw A (c, 0) (xN c)) else none
  | _ => none
def newP (t : Nat) (pc : Nat) (L st : List AV) (A : AH) : Option RS := match st with
  | .inl n :: rest => if 0 ≤ n ∧ n.toNatClampNeg ≤ 100000 ∧ A.1.1 + 1 < SC then rg (pc + 2) L (.inr (.inl (some A.1.1)) :: rest) (nw A (t, n.toNatClampNeg) n.toNatClampNeg) else none
  | _ => none
def newQ (k x pc : Nat) (L st : List AV) (A : AH) : Option RS := match xK.lookup (mO k, x), st with
  | some (2, _), .inl n :: rest => if 0 ≤ n ∧ n.toNatClampNeg ≤ 100000 ∧ A.1.1 + 1 < SC then rg (pc + 3) L (.inr (.inl (some A.1.1)) :: rest) (nw A (13, n.toNatClampNeg) n.toNatClampNeg) else none
  | _, _ => none
def cpy (pc : Nat) (L st : List AV) (A : AH) : Option RS := match st with
  | .inl n :: .inl dp :: .inr (.inl (some a)) :: .inl sp :: .inr (.inl (some a0)) :: rest => if rest.length ≤ 2 ∧ (A.2.1 a).1 = 10 ∧ (A.2.1 a0).1 = 10 ∧ 0 ≤ sp ∧ 0 ≤ dp ∧ 0 ≤ n ∧ sp.toNatClampNeg + n.toNatClampNeg ≤ (A.2.1 a0).2 ∧ dp.toNatClampNeg + n.toNatClampNeg ≤ (A.2.1 a).2 then rg (pc + 3) L rest (cpA A a0 a sp.toNatClampNeg dp.toNatClampNeg n.toNatClampNeg) else none
  | _ => none
def ivS (k x pc : Nat) (L st : List AV) (A : AH) : Option RS := match xI.lookup (mO k, x) with
  | some (0, c, _) => if mP c ≤ st.length ∧ st.length ≤ mP c + 4 then rc c (st.take (mP c)).reverse (st.drop (mP c)) else none
  | some (1, c, _) => if mP c ≤ st.length ∧ st.length ≤ mP c + 4 then rc c (st.take (mP c)).reverse (st.drop (mP c)) else none
  | some (6, _, _) => cpy pc L st A
  | _ => none
def ivV (k x : Nat) (st : List AV) (A : AH) : Option RS := match xI.lookup (mO k, x) with
  | some (2, c, _) => match st.drop (mP c) with
    | .inr (.inl (some b)) :: rest => if (A.2.1 b).1 = mO c ∧ rest.length ≤ 4 then rc c (.inr (.inl (some b)) :: (st.take (mP c)).reverse) rest else none
    | _ => none
  | _ => none
def ivI (k x pc : Nat) (L st : List AV) (A : AH) : Option RS := match xI.lookup (mO k, x) with
  | some (3, c, _) => match st with
    | .inr (.inl (some b)) :: rest => if rest.length ≤ 4 then rc c [.inr (.inl (some b))] rest else none
    | _ => none
  | some (4, c, _) => match st with
    | .inr (.inl (some b)) :: rest => if rest.length ≤ 4 then rc c [.inr (.inl (some b))] rest else none
    | _ => none
  | some (5, _, _) => match st with
    | .inr (.inl (some _)) :: rest => if rest.length ≤ 2 then rg (pc + 3) L rest A else none
    | _ => none
  | _ => none
def tsw (pc : Nat) (d lo hi : Int) (offs : Array Int) (L st : List AV) (A : AH) : Option RS := match st with
  | .inl x :: r => if x.toInt < lo ∨ hi < x.toInt then jmp pc d L r A else match offs[(x.toInt - lo).toNat]? with
    | some o => jmp pc o L r A
    | none => none
  | _ => none
def nxd (k pc : Nat) (i : Instr) (L st : List AV) (A : AH) : Option RS := match i with
  | .iconst n => rg (pc + 1) L (.inl (Int32.ofInt n) :: st) A
  | .bipush n => rg (pc + 2) L (.inl (Int8.ofInt n).toInt32 :: st) A
  | .sipush n => rg (pc + 3) L (.inl (Int16.ofInt n).toInt32 :: st) A
  | .ldc x => match xV.lookup (mO k, x) with
    | some v => rg (pc + 2) L (.inl v.1 :: st) A
    | none => none
  | .ldc_w x => match xV.lookup (mO k, x) with
    | some v => rg (pc + 3) L (.inl v.1 :: st) A
    | none => none
  | .iload_n n => ldI L n (pc + 1) st A
  | .iload n => ldI L n (pc + 2) st A
  | .aload_n n => ldR L n (pc + 1) st A
  | .aload n => ldR L n (pc + 2) st A
  | .istore_n n => stI k L n (pc + 1) st A
  | .istore n => stI k L n (pc + 2) st A
  | .astore_n n => stR k L n (pc + 1) st A
  | .astore n => stR k L n (pc + 2) st A
  | .lload_n n => ldL L n (pc + 1) st A
  | .lload n => ldL L n (pc + 2) st A
  | .lstore_n n => stL k L n (pc + 1) st A
  | .lstore n => stL k L n (pc + 2) st A
  | .ldc2_w x => match xVL.lookup (mO k, x) with
    | some v => rg (pc + 3) L (.inr (.inr v.1) :: st) A
    | none => none
  | .lconst n => rg (pc + 1) L (.inr (.inr (Int64.ofNat (n : Nat))) :: st) A
  | .i2l => match st with
    | .inl x :: r => rg (pc + 1) L (.inr (.inr x.toInt64) :: r) A
    | _ => none
  | .ladd => match st with
    | .inr (.inr y) :: .inr (.inr x) :: r => rg (pc + 1) L (.inr (.inr (x + y)) :: r) A
    | _ => none
  | .lmul => match st with
    | .inr (.inr y) :: .inr (.inr x) :: r => rg (pc + 1) L (.inr (.inr (x * y)) :: r) A
    | _ => none
  | .lcmp => match st with
    | .inr (.inr y) :: .inr (.inr x) :: r => rg (pc + 1) L (.inl (lg_cmp x y) :: r) A
    | _ => none
  | .iinc n c => match L[n]? with
    | some (.inl x) => if lgm k = false ∨ nlb L n = true then rg (pc + 3) (L.set n (.inl (x + Int32.ofInt c))) st A else none
    | _ => none
  | .iadd => b2 st (fun x y => x + y) pc L A
  | .isub => b2 st (fun x y => x - y) pc L A
  | .imul => b2 st (fun x y => x * y) pc L A
  | .iand => b2 st (fun x y => x &&& y) pc L A
  | .ior => b2 st (fun x y => x ||| y) pc L A
  | .ixor => b2 st (fun x y => x ^^^ y) pc L A
  | .ishl => b2 st (fun x y => x <<< (y &&& 31)) pc L A
  | .ishr => b2 st (fun x y => x >>> (y &&& 31)) pc L A
  | .iushr => b2 st (fun x y => (x.toUInt32 >>> (y.toUInt32 &&& Int32.toUInt32 31)).toInt32) pc L A
  | .idiv => match st with
    | .inl y :: .inl x :: r => if y = 0 then none else rg (pc + 1) L (.inl (x / y) :: r) A
    | _ => none
  | .irem => match st with
    | .inl y :: .inl x :: r => if y = 0 then none else rg (pc + 1) L (.inl (x - x / y * y) :: r) A
    | _ => none
  | .ineg => match st with
    | .inl x :: r => rg (pc + 1) L (.inl (-x) :: r) A
    | _ => none
  | .i2c => match st with
    | .inl x :: r => rg (pc + 1) L (.inl (x.toUInt32 % 65536).toInt32 :: r) A
    | _ => none
  | .dup => match st with
    | v :: r => if nlg v = true then rg (pc + 1) L (v :: v :: r) A else none
    | _ => none
  | .pop => match st with
    | v :: r => if nlg v = true then rg (pc + 1) L r A else none
    | _ => none
  | .goto o => jmp pc o L st A
  | .ifCond c o => match st with
    | .inl x :: r => if hc c x 0 = true then jmp pc o L r A else brf pc o L r A
    | _ => none
  | .if_icmp c o => match st with
    | .inl y :: .inl x :: r => if hc c x y = true then jmp pc o L r A else brf pc o L r A
    | _ => none
  | .ifnull o => match st with
    | .inr (.inl none) :: r => jmp pc o L r A
    | .inr (.inl (some _)) :: r => rg (pc + 3) L r A
    | _ => none
  | .tableswitch d lo hi offs => tsw pc d lo hi offs L st A
  | .getfield x => gtf k x pc L st A
  | .putfield x => ptf k x pc L st A
  | .arraylength => alen pc L st A
  | .iaload => ald 10 pc L st A
  | .caload => ald 11 pc L st A
  | .iastore => ast 10 (fun x => x) pc L st A
  | .castore => ast 11 (vp_nar .char) pc L st A
  | .aaload => aldR pc L st A
  | .aastore => astR pc L st A
  | .new x => newO k x pc L st A
  | .newarray .int => newP 10 pc L st A
  | .newarray .char => newP 11 pc L st A
  | .anewarray x => newQ k x pc L st A
  | .invokestatic x => ivS k x pc L st A
  | .invokevirtual x => ivV k x st A
  | .invokespecial x => ivI k x pc L st A
  | .ireturn => match st with
    | [.inl x] => if okr k x = true then rr (some (.inl x)) A else none
    | _ => none
  | .lreturn => match st with
    | [.inr (.inr x)] => if mR k = some .long then rr (some (.inr (.inr x))) A else none
    | _ => none
  | .return_ => match st with
    | [] => if mR k = none then rr none A else none
    | _ => none
  | _ => none
/-- the locals with which a method begins -/
def ent (k : Nat) (as : List AV) : List AV := as ++ List.replicate (mL k - as.length) (.inr (.inl none))
def zrun : Nat → Nat → Nat → Nat → List AV → List AV → AH → Option (Option AV × AH)
  | 0, _, _, _, _, _, _ => none
  | n + 1, d, k, pc, L, st, A => match decode (mB k) pc with
    | .error _ => none
    | .ok (i, len) => if ilok i len = true then match nxd k pc i L st A with
      | none => none
      | some (.inl (pc1, L1, st1, A1)) => if A.1.1 ≤ A1.1.1 ∧ A.1.2 ≤ A1.1.2 then zrun n d k pc1 L1 st1 A1 else none
      | some (.inr (.inl (v, A1))) => some (v, A1)
      | some (.inr (.inr (c, as, rest))) => match d with
        | 0 => none
        | d + 1 => if as.length ≤ mL c ∧ as.all nlg = true then match zrun n d c 0 (ent c as) [] A with
          | none => none
          | some (v, A1) => zrun n (d + 1) k (pc + 3) L (v.toList ++ rest) A1
          else none
      else none
theorem zrun_mono : ∀ (n d k pc : Nat) (L st : List AV) (A : AH) (r : Option AV × AH), zrun n d k pc L st A = some r → zrun (n + 1) d k pc L st A = some r := by
  intro n
  induction n with
  | zero => intro d k pc L st A r h; simp [zrun] at h
  | succ n ih =>
    intro d k pc L st A r h
    rw [zrun] at h ⊢
    cases hd : decode (mB k) pc with
    | error e => rw [hd] at h; simp at h
    | ok q =>
      obtain ⟨i, len⟩ := q
      rw [hd] at h
      dsimp only at h ⊢
      split at h
      next hl =>
        rw [if_pos hl]
        cases hn : nxd k pc i L st A with
        | none => rw [hn] at h; simp at h
        | some x =>
          rw [hn] at h
          rcases x with ⟨pc1, L1, st1, A1⟩ | ⟨v, A1⟩ | ⟨c, as, rest⟩
          · dsimp only at h ⊢
            split at h
            next hA => rw [if_pos hA]; exact ih _ _ _ _ _ _ _ h
            next => simp at h
          · exact h
          · cases d with
            | zero => simp at h
            | succ d =>
              dsimp only at h ⊢
              split at h
              next ha =>
                rw [if_pos ha]
                cases hc : zrun n d c 0 (ent c as) [] A with
                | none => rw [hc] at h; simp at h
                | some y =>
                  rw [hc] at h
                  rw [ih _ _ _ _ _ _ _ hc]
                  exact ih _ _ _ _ _ _ _ h
              next => simp at h
      next => simp at h
theorem zrun_le {n n' d k pc : Nat} {L st : List AV} {A : AH} {r : Option AV × AH} (hn : n ≤ n') (h : zrun n d k pc L st A = some r) : zrun n' d k pc L st A = some r := by
  induction hn with
  | refl => exact h
  | step _ ih => exact zrun_mono _ _ _ _ _ _ _ _ ih
/-- what a run comes to, however long it takes -/
noncomputable def zsem (d k pc : Nat) (L st : List AV) (A : AH) : Option (Option AV × AH) :=
  @dite _ (∃ n, ∃ r, zrun n d k pc L st A = some r) (Classical.propDecidable _) (fun h => some (Classical.choose (Classical.choose_spec h))) (fun _ => none)
theorem zsem_of {n d k pc : Nat} {L st : List AV} {A : AH} {r : Option AV × AH} (h : zrun n d k pc L st A = some r) : zsem d k pc L st A = some r := by
  have hx : ∃ n, ∃ r, zrun n d k pc L st A = some r := ⟨n, r, h⟩
  unfold zsem
  rw [dif_pos hx]
  have h2 := Classical.choose_spec (Classical.choose_spec hx)
  have h3 := zrun_le (Nat.le_max_left n (Classical.choose hx)) h
  have h4 := zrun_le (Nat.le_max_right n (Classical.choose hx)) h2
  rw [h3] at h4
  exact h4.symm
theorem zsem_ex {d k pc : Nat} {L st : List AV} {A : AH} {r : Option AV × AH} (h : zsem d k pc L st A = some r) : ∃ n, zrun n d k pc L st A = some r := by
  unfold zsem at h
  rcases Classical.em (∃ n, ∃ r, zrun n d k pc L st A = some r) with hx | hx
  · rw [dif_pos hx] at h
    cases h
    exact ⟨_, Classical.choose_spec (Classical.choose_spec hx)⟩
  · rw [dif_neg hx] at h
    cases h
theorem zsem_no {d k pc : Nat} {L st : List AV} {A : AH} (h : ∀ n, zrun n d k pc L st A = none) : zsem d k pc L st A = none := by
  cases hz : zsem d k pc L st A with
  | none => rfl
  | some r =>
    obtain ⟨n, hn⟩ := zsem_ex hz
    rw [h n] at hn
    cases hn
/-- a step that goes on -/
theorem zs_go {d k pc pc1 len : Nat} {i : Instr} {L L1 st st1 : List AV} {A A1 : AH} (hd : decode (mB k) pc = .ok (i, len)) (hl : ilok i len = true) (hn : nxd k pc i L st A = some (.inl (pc1, L1, st1, A1))) (hA : A.1.1 ≤ A1.1.1 ∧ A.1.2 ≤ A1.1.2) : zsem d k pc L st A = zsem d k pc1 L1 st1 A1 := by
  have e : ∀ n, zrun (n + 1) d k pc L st A = zrun n d k pc1 L1 st1 A1 := by
    intro n
    rw [zrun, hd]
    dsimp only
    rw [if_pos hl, hn]
    dsimp only
    rw [if_pos hA]
  cases h : zsem d k pc1 L1 st1 A1 with
  | some r =>
    obtain ⟨n, hn2⟩ := zsem_ex h
    exact zsem_of (n := n + 1) (by rw [e]; exact hn2)
  | none =>
    apply zsem_no
    intro n
    cases n with
    | zero => rfl
    | succ n =>
      rw [e]
      cases h2 : zrun n d k pc1 L1 st1 A1 with
      | none => rfl
      | some r => rw [zsem_of h2] at h; cases h
theorem zs_no {d k pc len : Nat} {i : Instr} {L st : List AV} {A : AH} (hd : decode (mB k) pc = .ok (i, len)) (hl : ilok i len = true) (hn : nxd k pc i L st A = none) : zsem d k pc L st A = none := by
  apply zsem_no
  intro n
  cases n with
  | zero => rfl
  | succ n =>
    rw [zrun, hd]
    dsimp only
    rw [if_pos hl, hn]
theorem zs_ret {d k pc len : Nat} {i : Instr} {L st : List AV} {A A1 : AH} {v : Option AV} (hd : decode (mB k) pc = .ok (i, len)) (hl : ilok i len = true) (hn : nxd k pc i L st A = some (.inr (.inl (v, A1)))) : zsem d k pc L st A = some (v, A1) := by
  apply zsem_of (n := 1)
  rw [zrun, hd]
  dsimp only
  rw [if_pos hl, hn]
theorem zs_call {d k pc len c : Nat} {i : Instr} {L st as rest : List AV} {A : AH} (hd : decode (mB k) pc = .ok (i, len)) (hl : ilok i len = true) (hn : nxd k pc i L st A = some (.inr (.inr (c, as, rest)))) (ha : as.length ≤ mL c ∧ as.all nlg = true) :
    zsem (d + 1) k pc L st A = (zsem d c 0 (ent c as) [] A).bind (fun q => zsem (d + 1) k (pc + 3) L (q.1.toList ++ rest) q.2) := by
  have e : ∀ n, zrun (n + 1) (d + 1) k pc L st A = match zrun n d c 0 (ent c as) [] A with
      | none => none
      | some (v, A1) => zrun n (d + 1) k (pc + 3) L (v.toList ++ rest) A1 := by
    intro n
    rw [zrun, hd]
    dsimp only
    rw [if_pos hl, hn]
    dsimp only
    rw [if_pos ha]
  cases h : zsem d c 0 (ent c as) [] A with
  | none =>
    apply zsem_no
    intro n
    cases n with
    | zero => rfl
    | succ n =>
      rw [e]
      cases h2 : zrun n d c 0 (ent c as) [] A with
      | none => rfl
      | some r => rw [zsem_of h2] at h; cases h
  | some q =>
    obtain ⟨v, A1⟩ := q
    obtain ⟨n, hn1⟩ := zsem_ex h
    show _ = zsem (d + 1) k (pc + 3) L (v.toList ++ rest) A1
    cases h2 : zsem (d + 1) k (pc + 3) L (v.toList ++ rest) A1 with
    | some r =>
      obtain ⟨n2, hn2⟩ := zsem_ex h2
      apply zsem_of (n := max n n2 + 1)
      rw [e, zrun_le (Nat.le_max_left n n2) hn1]
      exact zrun_le (Nat.le_max_right n n2) hn2
    | none =>
      apply zsem_no
      intro m
      cases m with
      | zero => rfl
      | succ m =>
        rw [e]
        cases h3 : zrun m d c 0 (ent c as) [] A with
        | none => rfl
        | some r =>
          have h4 := zsem_of h3
          rw [h] at h4
          cases h4
          dsimp only
          cases h5 : zrun m (d + 1) k (pc + 3) L (v.toList ++ rest) A1 with
          | none => rfl
          | some r => rw [zsem_of h5] at h2; cases h2
theorem nx_ret {k pc : Nat} {i : Instr} {L st : List AV} {A A1 : AH} {v : Option AV} (h : nxd k pc i L st A = some (.inr (.inl (v, A1)))) : A1 = A ∧ ((i = .ireturn ∧ ∃ x, st = [.inl x] ∧ v = some (.inl x) ∧ okr k x = true) ∨ (i = .return_ ∧ st = [] ∧ v = none ∧ mR k = none) ∨ (i = .lreturn ∧ ∃ x, st = [.inr (.inr x)] ∧ v = some (.inr (.inr x)) ∧ mR k = some .long)) := by
  cases i
  case ireturn =>
    dsimp only [nxd] at h
    split at h
    · split at h
      next hk => cases h; exact ⟨rfl, Or.inl ⟨rfl, _, rfl, rfl, hk⟩⟩
      next => cases h
    · cases h
  case return_ =>
    dsimp only [nxd] at h
    split at h
    · split at h
      next hk => cases h; exact ⟨rfl, Or.inr (Or.inl ⟨rfl, rfl, rfl, hk⟩)⟩
      next => cases h
    · cases h
  case lreturn =>
    dsimp only [nxd] at h
    split at h
    · split at h
      next hk => cases h; exact ⟨rfl, Or.inr (Or.inr ⟨rfl, _, rfl, rfl, hk⟩)⟩
      next => cases h
    · cases h
  case newarray t =>
    exfalso
    cases t <;> dsimp only [nxd, newP, rg] at h <;> first | (cases h; done) | (repeat' (split at h)) <;> cases h
  all_goals exfalso
  all_goals dsimp only [nxd] at h
  all_goals first | (cases h; done) | skip
  all_goals dsimp only [rg, rr, rc, jmp, brf, b2, ldI, ldR, stI, stR, ldL, stL, gtf, ptf, alen, ald, ast, aldR, astR, newO, newP, newQ, ivS, ivV, ivI, cpy, tsw] at h
  all_goals (repeat' (split at h)) <;> cases h
theorem zrun_sz : ∀ (n d k pc : Nat) (L st : List AV) (A : AH) (v : Option AV) (A' : AH), zrun n d k pc L st A = some (v, A') → A.1.1 ≤ A'.1.1 ∧ A.1.2 ≤ A'.1.2 := by
  intro n
  induction n with
  | zero => intro d k pc L st A v A' h; simp [zrun] at h
  | succ n ih =>
    intro d k pc L st A v A' h
    rw [zrun] at h
    cases hd : decode (mB k) pc with
    | error e => rw [hd] at h; simp at h
    | ok q =>
      obtain ⟨i, len⟩ := q
      rw [hd] at h
      dsimp only at h
      split at h
      next hl =>
        cases hn : nxd k pc i L st A with
        | none => rw [hn] at h; simp at h
        | some x =>
          rw [hn] at h
          rcases x with ⟨pc1, L1, st1, A1⟩ | ⟨w, A1⟩ | ⟨c, as, rest⟩
          · dsimp only at h
            split at h
            next hA =>
              have := ih _ _ _ _ _ _ _ _ h
              exact ⟨Nat.le_trans hA.1 this.1, Nat.le_trans hA.2 this.2⟩
            next => simp at h
          · dsimp only at h
            cases h
            have := (nx_ret hn).1
            subst this
            exact ⟨Nat.le_refl _, Nat.le_refl _⟩
          · cases d with
            | zero => simp at h
            | succ d =>
              dsimp only at h
              split at h
              next ha =>
                cases hc : zrun n d c 0 (ent c as) [] A with
                | none => rw [hc] at h; simp at h
                | some y =>
                  obtain ⟨w, A1⟩ := y
                  rw [hc] at h
                  dsimp only at h
                  have h1 := ih _ _ _ _ _ _ _ _ hc
                  have h2 := ih _ _ _ _ _ _ _ _ h
                  exact ⟨Nat.le_trans h1.1 h2.1, Nat.le_trans h1.2 h2.2⟩
              next => simp at h
      next => simp at h
end
section
/-! what the links of the tables give at a state where the good words hold -/
theorem look_mem {α β : Type} [BEq α] [LawfulBEq α] {l : List (α × β)} {a : α} {b : β} (h : l.lookup a = some b) : (a, b) ∈ l := by
  induction l with
  | nil => simp at h
  | cons q l ih =>
    obtain ⟨x, y⟩ := q
    rw [List.lookup_cons] at h
    cases hx : a == x with
    | true =>
      rw [hx] at h
      cases h
      have := eq_of_beq hx
      subst this
      exact List.mem_cons_self
    | false =>
      rw [hx] at h
      exact List.mem_cons_of_mem _ (ih h)
theorem xF_get {o x c f pl : Nat} (h : xF.lookup (o, x) = some (c, f, pl)) : Cond.fieldLink (xC o) x (xC c) (xT c f).2.1 (xT c f).2.2.1 ∈ gW ∧ c < 5 ∧ f < xN c ∧ (xT c f).1 = xC c := by
  have h1 := List.all_eq_true.mp xF_ok _ (look_mem h)
  simp only [Bool.and_eq_true, decide_eq_true_eq] at h1
  obtain ⟨⟨⟨⟨h1, h2⟩, h3⟩, h4⟩, h5⟩ := h1
  exact ⟨gW_of (x1_mem h1) h2, h3, h4, h5⟩
theorem xK_get {o x c pl : Nat} (h : xK.lookup (o, x) = some (c, pl)) : Cond.classLink (xC o) x (xC c) ∈ gW ∧ c < 5 := by
  have h1 := List.all_eq_true.mp xK_ok _ (look_mem h)
  simp only [Bool.and_eq_true, decide_eq_true_eq] at h1
  exact ⟨gW_of (x1_mem h1.1.1) h1.1.2, h1.2⟩
theorem xV_get {o x pl : Nat} {v : Int32} (h : xV.lookup (o, x) = some (v, pl)) : Cond.constant (xC o) x v ∈ gW := by
  have h1 := List.all_eq_true.mp xV_ok _ (look_mem h)
  simp only [Bool.and_eq_true, decide_eq_true_eq] at h1
  exact gW_of (x1_mem h1.1) h1.2
theorem xVL_get {o x pl : Nat} {v : Int64} (h : xVL.lookup (o, x) = some (v, pl)) : Cond.constantLong (xC o) x v ∈ gW := by
  have h1 := List.all_eq_true.mp xVL_ok _ (look_mem h)
  simp only [Bool.and_eq_true, decide_eq_true_eq] at h1
  exact gW_of (x1_mem h1.1) h1.2
theorem xi_ini {c : Nat} (h : c < 5) : Cond.initialized (xC c) ∈ gW := gW_of (x1_mem (xini_ok c h)) rfl
theorem xi_inst {c : Nat} (h : c < 5) : Cond.instantiable (xC c) (xN c) ∈ gW := gW_of (x1_mem (xinst_ok c h)) rfl
theorem xi_code {k : Nat} (h : k < 109) : Cond.code (mY k) (mB k) (mL k) (mR k) ∈ gW := gW_of (List.mem_append_right _ (xcode_ok k h)) rfl
theorem xi_lay {c : Nat} (h : c < 5) : ∀ w ∈ u_ws (xC c) (xT c) (xN c), w ∈ gW := by
  intro w hw
  have hm : w ∈ (([0, 1, 2, 3, 4] : List Nat).flatMap fun c => (List.range (xN c)).map (u_lay (xC c) (xT c))) := by
    refine List.mem_flatMap.mpr ⟨c, ?_, hw⟩
    have : c = 0 ∨ c = 1 ∨ c = 2 ∨ c = 3 ∨ c = 4 := by omega
    rcases this with rfl | rfl | rfl | rfl | rfl <;> simp
  have hg := List.all_eq_true.mp xlay_good w hm
  obtain ⟨i, hi⟩ := List.getElem?_of_mem hm
  have hl := (List.getElem?_eq_some_iff.mp hi).1
  rw [xlay_len] at hl
  have h2 := xlay_ok i hl
  rw [List.getD_eq_getElem?_getD (l := _) (i := i) (a := Cond.tt), hi] at h2
  exact gW_of (x1_mem h2) hg
def mokP (k : Nat) : Bool := decide (lw_tbl[(xw.getD k (0, 0, 0)).1]? = some (.initialized (mY k).cls)) && decide ((mY k).cls ≠ "java/lang/invoke/MethodHandle") && decide ((mY k).cls ≠ "java/lang/invoke/VarHandle") && decide ((parseMethodDescriptor (mY k).desc).map (fun d => d.parameters.length) = some (mP k)) && decide (mL k ≤ 20) && plainFor (mY k) && decide (xC (mO k) = (mY k).cls) && decide (k = 1 ∨ 0 < mL k ∨ mP k = 0)
theorem mok_all : ((List.range 109).all fun k => k == 1 || mokP k) = true := by decide +kernel
theorem mok {k : Nat} (h : k < 109) (h1 : k ≠ 1) : Cond.initialized (mY k).cls ∈ gW ∧ ((mY k).cls ≠ "java/lang/invoke/MethodHandle" ∧ (mY k).cls ≠ "java/lang/invoke/VarHandle" ∧ (parseMethodDescriptor (mY k).desc).map (fun d => d.parameters.length) = some (mP k)) ∧ mL k ≤ 20 ∧ plainFor (mY k) = true ∧ xC (mO k) = (mY k).cls := by
  have h2 := List.all_eq_true.mp mok_all k (List.mem_range.mpr h)
  simp only [Bool.or_eq_true, beq_iff_eq, mokP, Bool.and_eq_true, decide_eq_true_eq] at h2
  rcases h2 with h2 | ⟨⟨⟨⟨⟨⟨⟨a1, a2⟩, a3⟩, a4⟩, a5⟩, a6⟩, a7⟩, a8⟩
  · exact absurd h2 h1
  · exact ⟨gW_of (xb_mem a1) rfl, ⟨a2, a3, a4⟩, a5, a6, a7⟩
def xIokP (q : (Nat × Nat) × (Nat × Nat × Nat)) : Bool := match q with
  | ((o, x), (0, k, p)) => decide (tables_1[p]? = some (.methodLink (xC o) x (mY k))) && decide (lw_tbl[(xw.getD k (0, 0, 0)).2.1]? = some (.static (mY k))) && decide (k < 109) && decide (k ≠ 1)
  | ((o, x), (1, k, p)) => decide (tables_1[p]? = some (.methodLinkNest (xC o) x (mY k) "BusRack")) && decide (lw_tbl[(xw.getD k (0, 0, 0)).2.1]? = some (.static (mY k))) && decide (k < 109) && decide (k ≠ 1)
  | ((o, x), (2, k, p)) => decide (tables_1[p]? = some (.methodLink (xC o) x (mY k))) && decide (lw_tbl[(xw.getD k (0, 0, 0)).2.1]? = some (.instanceMethod (mY k))) && decide (lw_tbl[(xw.getD k (0, 0, 0)).2.2]? = some (.selects (mY k).cls (mY k) (mY k))) && decide (k < 109) && decide (k ≠ 1) && decide (mO k < 5)
  | ((o, x), (3, k, p)) => decide (tables_1[p]? = some (.methodLink (xC o) x (mY k))) && decide (lw_tbl[(xw.getD k (0, 0, 0)).2.1]? = some (.instanceMethod (mY k))) && decide ((mY k).name = "<init>") && decide (mR k = none) && decide (mP k = 0) && decide (k < 109) && decide (k ≠ 1)
  | ((o, x), (4, k, p)) => decide (tables_1[p]? = some (.methodLinkNest (xC o) x (mY k) "BusRack")) && decide (lw_tbl[(xw.getD k (0, 0, 0)).2.1]? = some (.instanceMethod (mY k))) && decide ((mY k).name = "<init>") && decide (mR k = none) && decide (mP k = 0) && decide (k < 109) && decide (k ≠ 1)
  | ((o, x), (5, _, p)) => decide (tables_1[p]? = some (.methodLink (xC o) x Lib.objectInit))
  | ((o, x), (6, _, p)) => decide (tables_1[p]? = some (.methodLink (xC o) x arraycopyName))
  | _ => false
theorem xI_ok : xI.all xIokP = true := by decide +kernel
theorem xI_0 {o x k pl : Nat} (h : xI.lookup (o, x) = some (0, k, pl)) : Cond.methodLink (xC o) x (mY k) ∈ gW ∧ Cond.static (mY k) ∈ gW ∧ k < 109 ∧ k ≠ 1 := by
  have h1 := List.all_eq_true.mp xI_ok _ (look_mem h)
  simp only [xIokP, Bool.and_eq_true, decide_eq_true_eq] at h1
  obtain ⟨⟨⟨a1, a2⟩, a3⟩, a4⟩ := h1
  exact ⟨gW_of (x1_mem a1) rfl, gW_of (xb_mem a2) rfl, a3, a4⟩
theorem xI_1 {o x k pl : Nat} (h : xI.lookup (o, x) = some (1, k, pl)) : Cond.methodLinkNest (xC o) x (mY k) "BusRack" ∈ lw_tbl ∧ Cond.static (mY k) ∈ gW ∧ k < 109 ∧ k ≠ 1 := by
  have h1 := List.all_eq_true.mp xI_ok _ (look_mem h)
  simp only [xIokP, Bool.and_eq_true, decide_eq_true_eq] at h1
  obtain ⟨⟨⟨a1, a2⟩, a3⟩, a4⟩ := h1
  exact ⟨x1_mem a1, gW_of (xb_mem a2) rfl, a3, a4⟩
theorem xI_2 {o x k pl : Nat} (h : xI.lookup (o, x) = some (2, k, pl)) : Cond.methodLink (xC o) x (mY k) ∈ gW ∧ Cond.instanceMethod (mY k) ∈ gW ∧ Cond.selects (mY k).cls (mY k) (mY k) ∈ gW ∧ k < 109 ∧ k ≠ 1 ∧ mO k < 5 := by
  have h1 := List.all_eq_true.mp xI_ok _ (look_mem h)
  simp only [xIokP, Bool.and_eq_true, decide_eq_true_eq] at h1
  obtain ⟨⟨⟨⟨⟨a1, a2⟩, a3⟩, a4⟩, a5⟩, a6⟩ := h1
  exact ⟨gW_of (x1_mem a1) rfl, gW_of (xb_mem a2) rfl, gW_of (xb_mem a3) rfl, a4, a5, a6⟩
theorem xI_3 {o x k pl : Nat} (h : xI.lookup (o, x) = some (3, k, pl)) : Cond.methodLink (xC o) x (mY k) ∈ gW ∧ Cond.instanceMethod (mY k) ∈ gW ∧ (mY k).name = "<init>" ∧ mR k = none ∧ mP k = 0 ∧ k < 109 ∧ k ≠ 1 := by
  have h1 := List.all_eq_true.mp xI_ok _ (look_mem h)
  simp only [xIokP, Bool.and_eq_true, decide_eq_true_eq] at h1
  obtain ⟨⟨⟨⟨⟨⟨a1, a2⟩, a3⟩, a4⟩, a5⟩, a6⟩, a7⟩ := h1
  exact ⟨gW_of (x1_mem a1) rfl, gW_of (xb_mem a2) rfl, a3, a4, a5, a6, a7⟩
theorem xI_4 {o x k pl : Nat} (h : xI.lookup (o, x) = some (4, k, pl)) : Cond.methodLinkNest (xC o) x (mY k) "BusRack" ∈ lw_tbl ∧ Cond.instanceMethod (mY k) ∈ gW ∧ (mY k).name = "<init>" ∧ mR k = none ∧ mP k = 0 ∧ k < 109 ∧ k ≠ 1 := by
  have h1 := List.all_eq_true.mp xI_ok _ (look_mem h)
  simp only [xIokP, Bool.and_eq_true, decide_eq_true_eq] at h1
  obtain ⟨⟨⟨⟨⟨⟨a1, a2⟩, a3⟩, a4⟩, a5⟩, a6⟩, a7⟩ := h1
  exact ⟨x1_mem a1, gW_of (xb_mem a2) rfl, a3, a4, a5, a6, a7⟩
theorem xI_5 {o x k pl : Nat} (h : xI.lookup (o, x) = some (5, k, pl)) : Cond.methodLink (xC o) x Lib.objectInit ∈ gW := by
  have h1 := List.all_eq_true.mp xI_ok _ (look_mem h)
  simp only [xIokP, decide_eq_true_eq] at h1
  exact gW_of (x1_mem h1) rfl
theorem xI_6 {o x k pl : Nat} (h : xI.lookup (o, x) = some (6, k, pl)) : Cond.methodLink (xC o) x arraycopyName ∈ gW := by
  have h1 := List.all_eq_true.mp xI_ok _ (look_mem h)
  simp only [xIokP, decide_eq_true_eq] at h1
  exact gW_of (x1_mem h1) rfl
theorem xo_inst : Cond.instanceMethod Lib.objectInit ∈ gW := gW_of (x1_mem (i := 18) (by decide +kernel)) rfl
theorem xo_code : Cond.code Lib.objectInit ⟨#[0xb1]⟩ 1 none ∈ gW := gW_of (x1_mem (i := 19) (by decide +kernel)) rfl
theorem xa_nat : Cond.native arraycopyName ∈ lw_tbl := x1_mem (i := 247) (by decide +kernel)
theorem xa_good : goodWord (Cond.native arraycopyName) = true := by first | rfl | decide +kernel
theorem xa_stat : Cond.static arraycopyName ∈ gW := gW_of (x1_mem (i := 246) (by decide +kernel)) rfl
theorem xa_ini : Cond.initialized "java/lang/System" ∈ gW := gW_of (x1_mem (i := 10) (by decide +kernel)) rfl
theorem xn_int : Cond.arrayClass .int ∈ gW := gW_of (x1_mem (i := 96) (by decide +kernel)) rfl
theorem xn_char : Cond.arrayClass .char ∈ gW := gW_of (x1_mem (i := 201) (by decide +kernel)) rfl
theorem xn_over : Cond.arrayOver (.object "BusRack$Rack") ∈ lw_tbl := x1_mem (i := 104) (by decide +kernel)
end
section
/-! the abstract heap and the machine's: cell k lies at B + k, the script at b -/
def cvv (B b : Nat) : AV → Value
  | .inl x => .int x
  | .inr (.inl none) => .null
  | .inr (.inl (some k)) => .ref (if k = SC then b else B + k)
  | .inr (.inr x) => .long x
def aty : Nat → FieldType
  | 0 => .int
  | 1 => .char
  | 2 => .int
  | _ => .object "BusRack$Rack"
def cok (dC : Nat → ClassId) (dI : Nat → Nat → Nat) (dA : Nat → ClassId) (B b : Nat) (A : AH) (k : Nat) (H : Heap) : Prop :=
  ((A.2.1 k).1 < 5 → t_OB (B + k) (dC (A.2.1 k).1) (xN (A.2.1 k).1) (dI (A.2.1 k).1) H (fun j => cvv B b (fv A (A.2.1 k).1 k j))) ∧
  (∀ t, t < 3 → (A.2.1 k).1 = 10 + t → H[B + k]? = some (arrV (dA t) (A.2.1 k).2 (fun j => .int (A.2.2.1 k j)))) ∧
  ((A.2.1 k).1 = 13 → H[B + k]? = some (arrV (dA 3) (A.2.1 k).2 (fun j => cvv B b (.inr (.inl (A.2.2.2 k j))))))
theorem cok.congr {dC : Nat → ClassId} {dI : Nat → Nat → Nat} {dA : Nat → ClassId} {B b : Nat} {A A1 : AH} {k : Nat} {H H1 : Heap} (h : cok dC dI dA B b A k H) (ht : A1.2.1 k = A.2.1 k) (hm : A1.2.2.1 k = A.2.2.1 k) (hr : A1.2.2.2 k = A.2.2.2 k) (hh : H1[B + k]? = H[B + k]?) : cok dC dI dA B b A1 k H1 := by
  obtain ⟨h1, h2, h3⟩ := h
  refine ⟨fun q => ?_, fun t ht2 q => ?_, fun q => ?_⟩
  · rw [ht] at q ⊢
    have e : (fun j => cvv B b (fv A1 (A.2.1 k).1 k j)) = (fun j => cvv B b (fv A (A.2.1 k).1 k j)) := by
      funext j
      simp only [fv, hm, hr]
    rw [e]
    exact (h1 q).kept hh
  · rw [ht] at q
    rw [hh, ht, hm]
    exact h2 t ht2 q
  · rw [ht] at q
    rw [hh, ht, hr]
    exact h3 q
def HP (dC : Nat → ClassId) (dI : Nat → Nat → Nat) (dA : Nat → ClassId) (B b Ls : Nat) (xs : Nat → Int32) (A : AH) (H : Heap) : Prop :=
  H.size = B + A.1.1 ∧ A.1.1 < SC ∧ (∀ k, (A.2.1 k).1 < 14 → k < A.1.1) ∧ (∀ k, k < A.1.1 → cok dC dI dA B b A k H) ∧ (∀ k, (A.2.1 k).1 = 20 → k = SC) ∧ A.2.1 SC = (20, Ls) ∧ A.2.2.1 SC = xs
theorem HP.set {dC : Nat → ClassId} {dI : Nat → Nat → Nat} {dA : Nat → ClassId} {B b Ls : Nat} {xs : Nat → Int32} {A A1 : AH} {H H1 : Heap} {a : Nat} (h : HP dC dI dA B b Ls xs A H) (e1 : A1.1 = A.1) (e2 : A1.2.1 = A.2.1) (ha : a < A.1.1)
    (em : ∀ k, k ≠ a → A1.2.2.1 k = A.2.2.1 k) (er : ∀ k, k ≠ a → A1.2.2.2 k = A.2.2.2 k) (hz : H1.size = H.size) (ho : ∀ q, q ≠ B + a → H1[q]? = H[q]?) (hc : cok dC dI dA B b A1 a H1) : HP dC dI dA B b Ls xs A1 H1 := by
  obtain ⟨h1, h2, h3, h4, h5, h6, h7⟩ := h
  refine ⟨by rw [hz, e1]; exact h1, by rw [e1]; exact h2, fun k q => by rw [e2] at q; rw [e1]; exact h3 k q, fun k q => ?_, fun k q => by rw [e2] at q; exact h5 k q, by rw [e2]; exact h6, ?_⟩
  · by_cases hk : k = a
    · rw [hk]; exact hc
    · rw [e1] at q
      exact (h4 k q).congr (by rw [e2]) (em k hk) (er k hk) (ho _ (by omega))
  · rw [em SC (by omega)]
    exact h7
theorem HP.new {dC : Nat → ClassId} {dI : Nat → Nat → Nat} {dA : Nat → ClassId} {B b Ls : Nat} {xs : Nat → Int32} {A : AH} {H H1 : Heap} {t : Nat × Nat} {w : Nat} (h : HP dC dI dA B b Ls xs A H) (ht : t.1 < 14) (hn : A.1.1 + 1 < SC) (hz : H1.size = H.size + 1) (ho : ∀ q, q < H.size → H1[q]? = H[q]?) (hc : cok dC dI dA B b (nw A t w) A.1.1 H1) : HP dC dI dA B b Ls xs (nw A t w) H1 := by
  obtain ⟨h1, h2, h3, h4, h5, h6, h7⟩ := h
  refine ⟨by rw [hz, h1]; rfl, hn, fun k q => ?_, fun k q => ?_, fun k q => ?_, ?_, ?_⟩
  · by_cases hk : k = A.1.1
    · rw [hk]; exact Nat.lt_succ_self _
    · simp only [nw, hk, if_false] at q ⊢
      exact Nat.lt_succ_of_lt (h3 k q)
  · by_cases hk : k = A.1.1
    · rw [hk]; exact hc
    · have hk2 : k < A.1.1 := by simp only [nw] at q; omega
      refine (h4 k hk2).congr ?_ ?_ ?_ (ho _ (by omega))
      · simp [nw, hk]
      · funext j; simp [nw, hk]
      · funext j; simp [nw, hk]
  · by_cases hk : k = A.1.1
    · rw [hk] at q
      simp [nw] at q
      omega
    · simp only [nw, hk, if_false] at q
      exact h5 k q
  · have hk : SC ≠ A.1.1 := by omega
    simp only [nw, hk, if_false]
    exact h6
  · have hk : SC ≠ A.1.1 := by omega
    simp only [nw, hk, if_false]
    exact h7
/-- what a method may have done so far -/
def fr (B : Nat) (s : State) (H : Heap) (locs : List Loc) : Prop := s.heap.size ≤ H.size ∧ B ≤ s.heap.size ∧ (∀ q, q < B → H[q]? = s.heap[q]?) ∧ ∀ l ∈ locs, B ≤ l.base
theorem fr.put {B : Nat} {s : State} {H H1 : Heap} {locs : List Loc} {a i : Nat} (h : fr B s H locs) (hz : H1.size = H.size) (ho : ∀ q, q ≠ B + a → H1[q]? = H[q]?) : fr B s H1 (locs ++ [⟨B + a, i⟩]) := by
  obtain ⟨h1, h2, h3, h4⟩ := h
  refine ⟨by rw [hz]; exact h1, h2, fun q hq => (ho q (by omega)).trans (h3 q hq), fun l hl => ?_⟩
  rcases List.mem_append.mp hl with q | q
  · exact h4 l q
  · rw [List.mem_singleton] at q
    rw [q]
    exact Nat.le_add_right _ _
theorem fr.new {B : Nat} {s : State} {H H1 : Heap} {locs : List Loc} (h : fr B s H locs) (hz : H1.size = H.size + 1) (ho : ∀ q, q < H.size → H1[q]? = H[q]?) : fr B s H1 locs := by
  obtain ⟨h1, h2, h3, h4⟩ := h
  exact ⟨by omega, h2, fun q hq => (ho q (by omega)).trans (h3 q hq), h4⟩
def KX (dC : Nat → ClassId) (dI : Nat → Nat → Nat) (dA : Nat → ClassId) (U : State) : Prop :=
  (∀ c, c < 5 → u_Kn U (xC c) (xT c) (xN c) (dC c) (dI c)) ∧ (∀ t, t < 4 → ArrOfT U (dA t) (aty t) ∧ U.vm.findClass ("[" ++ (aty t).toString) = some (dA t)) ∧
  (∃ (kA : Class) (comp : ClassId), U.vm.classes[dA 3]? = some kA ∧ kA.kind = .array comp (aty 3) ∧ U.vm.findClass "BusRack$Rack" = some comp) ∧ va_AO "BusRack$Rack" U ∧
  ∀ (o x k : Nat), Cond.methodLinkNest (xC o) x (mY k) "BusRack" ∈ lw_tbl → va_Nw (.methodLinkNest (xC o) x (mY k) "BusRack") U
theorem KX.moved {dC : Nat → ClassId} {dI : Nat → Nat → Nat} {dA : Nat → ClassId} {s U : State} (hW : s.WarmedH U.vm) (h : KX dC dI dA s) : KX dC dI dA U := by
  have hvm : s.vm.Alike U.vm := hW.alike
  obtain ⟨h1, h2, ⟨kA, comp, a1, a2, a3⟩, h4, h5⟩ := h
  obtain ⟨k', hk', he⟩ := hvm.2.2 _ _ a1
  refine ⟨fun c hc => u_Kn_moved hvm (h1 c hc), fun t ht => ⟨arrOfT_moved hvm (h2 t ht).1, by rw [hvm.findClass]; exact (h2 t ht).2⟩, ⟨k', comp, hk', by rw [he]; exact a2, by rw [hvm.findClass]; exact a3⟩, h4.moved hvm, fun o x k hm => (h5 o x k hm).warmM hW⟩
theorem KX.called {dC : Nat → ClassId} {dI : Nat → Nat → Nat} {dA : Nat → ClassId} {U : State} (g : JFrame) (mk : MethodId) (a : Array Value) (h : KX dC dI dA U) : KX dC dI dA (U.calling g mk a) := by
  have hvm : U.vm.Alike (U.calling g mk a).vm := Vm.Alike.refl U.vm
  obtain ⟨h1, h2, ⟨kA, comp, a1, a2, a3⟩, h4, h5⟩ := h
  exact ⟨fun c hc => u_Kn_moved hvm (h1 c hc), fun t ht => ⟨arrOfT_moved hvm (h2 t ht).1, (h2 t ht).2⟩, ⟨kA, comp, a1, a2, a3⟩, h4.moved hvm, fun o x k hm => (h5 o x k hm).same rfl rfl⟩
/-- locals -/
def lv1 (B b i : Nat) (o : Option AV) : Option (Nat × Value) := match o with
  | some (.inl x) => some (i, .int x)
  | some (.inr (.inl (some r))) => some (i, cvv B b (.inr (.inl (some r))))
  | some (.inr (.inr x)) => some (i, .long x)
  | _ => none
def lvL (B b : Nat) (L : List AV) : List (Nat × Value) := (List.range L.length).filterMap (fun i => lv1 B b i L[i]?)
theorem lvL_mem {B b : Nat} {L : List AV} {i : Nat} {w : Value} : (i, w) ∈ lvL B b L ↔ ∃ v : AV, L[i]? = some v ∧ v ≠ .inr (.inl none) ∧ w = cvv B b v := by
  unfold lvL
  rw [List.mem_filterMap]
  constructor
  · rintro ⟨j, -, hj⟩
    unfold lv1 at hj
    split at hj
    next x hx => cases hj; exact ⟨_, hx, by simp, rfl⟩
    next r hx => cases hj; exact ⟨_, hx, by simp, rfl⟩
    next x hx => cases hj; exact ⟨_, hx, by simp, rfl⟩
    next => cases hj
  · rintro ⟨v, hv, hne, rfl⟩
    refine ⟨i, List.mem_range.mpr (List.getElem?_eq_some_iff.mp hv).1, ?_⟩
    rw [hv]
    rcases v with x | ((_ | r) | x)
    · rfl
    · exact absurd rfl hne
    · rfl
    · rfl
theorem cvv_cat (B b : Nat) {v : AV} (h : nlg v = true) : (cvv B b v).category = 1 := by
  rcases v with x | ((_ | r) | x)
  · rfl
  · rfl
  · rfl
  · cases h
theorem cvv_cat2 (B b : Nat) (v : AV) : (cvv B b v).category ≤ 2 := by
  rcases v with x | ((_ | r) | x)
  · exact Nat.le_succ 1
  · exact Nat.le_succ 1
  · exact Nat.le_succ 1
  · exact Nat.le_refl 2
def lrel (B b : Nat) (g : Bool) (nL : Nat) (L : List AV) (arr : Array Slot) : Prop := lv_has arr nL (lvL B b L) ∧ L.length = nL ∧ (g = false → ∀ v ∈ L, nlg v = true)
theorem lrel.get {B b nL : Nat} {g : Bool} {L : List AV} {arr : Array Slot} {i : Nat} {v : AV} (h : lrel B b g nL L arr) (hv : L[i]? = some v) (hne : v ≠ .inr (.inl none)) : arr[i]? = some (.val (cvv B b v)) := h.1.2.2 (i, _) (lvL_mem.mpr ⟨v, hv, hne, rfl⟩)
/-- no long right below the place i -/
theorem nlb_below {B b nL : Nat} {g : Bool} {L : List AV} {arr : Array Slot} {i j : Nat} {u : AV} (h : lrel B b g nL L arr) (hg : g = false ∨ nlb L i = true) (hj : j + 1 = i) (hu : L[j]? = some u) : nlg u = true := by
  rcases hg with hg | hg
  · exact h.2.2 hg u (List.mem_of_getElem? hu)
  · subst hj
    unfold nlb at hg
    dsimp only at hg
    rw [hu] at hg
    rcases u with x | ((_ | r) | x)
    · rfl
    · rfl
    · rfl
    · cases hg
theorem set_nlg {g : Bool} {L : List AV} {i : Nat} {v : AV} (h : g = false → ∀ v ∈ L, nlg v = true) (hv : nlg v = true) : g = false → ∀ u ∈ L.set i v, nlg u = true := by
  intro hg u hu
  rcases List.mem_or_eq_of_mem_set hu with q | q
  · exact h hg u q
  · rw [q]; exact hv
theorem lrel.set {B b nL : Nat} {g : Bool} {L : List AV} {arr arr1 : Array Slot} {i : Nat} {v : AV} (h : lrel B b g nL L arr) (hg : g = false ∨ nlb L i = true) (hv : nlg v = true) (hi : i < L.length) (h1 : lv_has arr1 nL ((i, cvv B b v) :: (lvL B b L).filter (fun q => !(q.1 == i) && !(q.1 + 1 == i && q.2.category == 2)))) : lrel B b g nL (L.set i v) arr1 := by
  refine ⟨⟨h1.1, h1.2.1, fun q hq => ?_⟩, by rw [List.length_set]; exact h.2.1, set_nlg h.2.2 hv⟩
  obtain ⟨j, w⟩ := q
  obtain ⟨u, hu, hne, rfl⟩ := lvL_mem.mp hq
  by_cases hj : j = i
  · subst hj
    rw [List.getElem?_set_self hi] at hu
    cases hu
    exact h1.2.2 _ List.mem_cons_self
  · rw [List.getElem?_set_ne (Ne.symm hj)] at hu
    refine h1.2.2 (j, cvv B b u) (List.mem_cons_of_mem _ (List.mem_filter.mpr ⟨lvL_mem.mpr ⟨u, hu, hne, rfl⟩, ?_⟩))
    by_cases hj1 : j + 1 = i
    · have hc : (cvv B b u).category = 1 := cvv_cat B b (nlb_below h hg hj1 hu)
      simp [hj, hc]
    · simp [hj, hj1]
theorem lrel.set2 {B b nL : Nat} {g : Bool} {L : List AV} {arr arr1 : Array Slot} {i : Nat} {x : Int64} (h : lrel B b g nL L arr) (hg1 : g = true) (hg : nlb L i = true) (hi : i + 1 < L.length) (h1 : lv_has arr1 nL ((i, Value.long x) :: (lvL B b L).filter (fun q => !(q.1 == i) && (!(q.1 == i + 1) && !(q.1 + 1 == i && q.2.category == 2))))) : lrel B b g nL ((L.set i (.inr (.inr x))).set (i + 1) (.inr (.inl none))) arr1 := by
  refine ⟨⟨h1.1, h1.2.1, fun q hq => ?_⟩, by rw [List.length_set, List.length_set]; exact h.2.1, fun q => by rw [hg1] at q; cases q⟩
  obtain ⟨j, w⟩ := q
  obtain ⟨u, hu, hne, rfl⟩ := lvL_mem.mp hq
  by_cases hj2 : j = i + 1
  · subst hj2
    rw [List.getElem?_set_self (by rw [List.length_set]; exact hi)] at hu
    cases hu
    exact absurd rfl hne
  · rw [List.getElem?_set_ne (Ne.symm hj2)] at hu
    by_cases hj : j = i
    · subst hj
      rw [List.getElem?_set_self (by omega)] at hu
      cases hu
      exact h1.2.2 _ List.mem_cons_self
    · rw [List.getElem?_set_ne (Ne.symm hj)] at hu
      refine h1.2.2 (j, cvv B b u) (List.mem_cons_of_mem _ (List.mem_filter.mpr ⟨lvL_mem.mpr ⟨u, hu, hne, rfl⟩, ?_⟩))
      by_cases hj1 : j + 1 = i
      · have hc : (cvv B b u).category = 1 := cvv_cat B b (nlb_below h (Or.inr hg) hj1 hu)
        simp [hj, hj2, hc]
      · simp [hj, hj2, hj1]
theorem lg_len (B b : Nat) (as : List AV) (h : as.all nlg = true) : (lg_sl (as.map (cvv B b))).length = as.length := by
  induction as with
  | nil => rfl
  | cons v as ih =>
    rw [List.all_cons, Bool.and_eq_true] at h
    have e : lg_sl ((v :: as).map (cvv B b)) = .val (cvv B b v) :: lg_sl (as.map (cvv B b)) := by
      show List.flatMap _ (cvv B b v :: as.map (cvv B b)) = _
      rw [List.flatMap_cons, if_neg (by rw [cvv_cat B b h.1]; decide)]
      rfl
    rw [e, List.length_cons, ih h.2, List.length_cons]
theorem lv_args_mem (B b : Nat) : ∀ (as : List AV) (j i : Nat) (v : AV), as.all nlg = true → as[i]? = some v → (j + i, cvv B b v) ∈ lv_args j (as.map (cvv B b))
  | [], j, i, v, _, h => by simp at h
  | a :: as, j, i, v, ha, h => by
    rw [List.all_cons, Bool.and_eq_true] at ha
    rw [List.map_cons, lv_args, if_neg (by rw [cvv_cat B b ha.1]; decide)]
    cases i with
    | zero =>
      rw [List.getElem?_cons_zero] at h
      cases h
      exact List.mem_cons_self
    | succ i =>
      rw [List.getElem?_cons_succ] at h
      have := lv_args_mem B b as (j + 1) i v ha.2 h
      rw [show j + 1 + i = j + (i + 1) by omega] at this
      exact List.mem_cons_of_mem _ this
theorem ent_nlg {k : Nat} {as : List AV} (h : as.all nlg = true) : ∀ v ∈ ent k as, nlg v = true := by
  intro v hv
  rcases List.mem_append.mp hv with q | q
  · exact List.all_eq_true.mp h v q
  · rw [(List.mem_replicate.mp q).2]
    rfl
theorem lrel.entry {B b k : Nat} {g : Bool} {as : List AV} (h : as.length ≤ mL k) (hg : as.all nlg = true) : lrel B b g (mL k) (ent k as) ((lg_sl (as.map (cvv B b)) ++ List.replicate (mL k - (lg_sl (as.map (cvv B b))).length) Slot.unset).toArray) := by
  have h1 := lv_entry (as.map (cvv B b)) (n := mL k) (by rw [lg_len B b as hg]; exact h)
  refine ⟨⟨h1.1, h1.2.1, fun q hq => h1.2.2 q ?_⟩, by simp [ent]; omega, fun _ => ent_nlg hg⟩
  obtain ⟨j, w⟩ := q
  obtain ⟨u, hu, hne, rfl⟩ := lvL_mem.mp hq
  have hj : j < as.length := by
    rcases Nat.lt_or_ge j as.length with q | q
    · exact q
    · unfold ent at hu
      rw [List.getElem?_append_right q, List.getElem?_replicate] at hu
      split at hu
      · cases hu; exact absurd rfl hne
      · cases hu
  unfold ent at hu
  rw [List.getElem?_append_left hj] at hu
  have := lv_args_mem B b as 0 j u hg hu
  rw [Nat.zero_add] at this
  exact this
end
section
/-! one instruction: what the abstract machine does the machine does -/
def Cx (dC : Nat → ClassId) (dI : Nat → Nat → Nat) (dA : Nat → ClassId) (B b Ls : Nat) (xs : Nat → Int32) (k : Nat) (p : Program) (s : State) (m : MethodId) (args : Array Value) (meth : Method) (c : Code) : Prop :=
  p.tables.exec = Jvm.exec ∧ c.code = mB k ∧ meth.sig.returnType = mR k ∧ c.maxLocals = mL k ∧ s.vm.findClass (xC (mO k)) = some m.cls ∧ meth.locks = false ∧ ((mY k).name = "<init>" → meth.name = "<init>") ∧ (∀ w ∈ gW, w.before args s = true) ∧ KX dC dI dA s ∧ va_X b Ls xs s s.heap ∧ b < B
section STEP
variable {dC : Nat → ClassId} {dI : Nat → Nat → Nat} {dA : Nat → ClassId} {B b Ls : Nat} {xs : Nat → Int32} {k : Nat}
variable {p : Program} {l : Launch} {e : Env} {R : Room} {s : State} {m : MethodId} {args : Array Value} {below : List Frame} {meth : Method} {c : Code} {Q : State → Prop}
variable {pc : Nat} {L st : List AV} {A : AH} {H : Heap} {locs : List Loc} {arr : Array Slot} {cells slots : Nat}
theorem s_gtf (cx : Cx dC dI dA B b Ls xs k p s m args meth c) (hH : HP dC dI dA B b Ls xs A H) {x c0 f pl r : Nat} {rest : List AV} (hd : decode (mB k) pc = .ok (.getfield x, 3)) (hlk : xF.lookup (mO k, x) = some (c0, f, pl)) (ht : (A.2.1 r).1 = c0)
    (kk : W p l e R s m args below meth c H locs cells slots Q (F0 m (pc + 3) arr ((fv A c0 r f :: rest).map (cvv B b)))) : W p l e R s m args below meth c H locs cells slots Q (F0 m pc arr ((.inr (.inl (some r)) :: rest : List AV).map (cvv B b))) := by
  obtain ⟨hx, hb, hr, hml, hown, hlocks, hnm, hts, hK, hX, hbB⟩ := cx
  obtain ⟨h1, h2, h3, h4, h5, h6, h7⟩ := hH
  obtain ⟨f1, f2, f3, f4⟩ := xF_get hlk
  have hrn := h3 r (by omega)
  have hrS : r ≠ SC := by omega
  obtain ⟨q0, -, -⟩ := h4 r hrn
  rw [ht] at q0
  obtain ⟨cell, q1, q2, q3, q4⟩ := q0 f2
  obtain ⟨hS, hfc, kC, hkC, hkind⟩ := hK.1 c0 f2
  obtain ⟨cf, kf, fi, fd, hi, hsl⟩ := hS f f3
  have hi2 := hi
  rw [f4] at hi2
  show W p l e R s m args below meth c H locs cells slots Q (F0 m pc arr ((Value.ref (if r = SC then b else B + r)) :: rest.map (cvv B b)))
  rw [if_neg hrS]
  refine W.getf hx hb hown (hts _ f1) hi2 (u_facts hfc hkC (u_lays hts (xi_lay f2) f3) hi).1 q1 (by rw [q3]; exact fun h => by cases h) (v := cvv B b (fv A c0 r f)) ?_ rfl rfl hd kk
  rw [hsl, q4 f f3]
theorem okf_fits {t : FieldType} {v : AV} (h : okf t v = true) (B b : Nat) : narrow t (cvv B b v) = cvv B b v ∧ fits t (cvv B b v) = true := by
  rcases v with x | ((_ | r) | x) <;> cases t <;> simp only [okf, Bool.or_eq_true, beq_iff_eq, Bool.false_eq_true] at h
  case inl.boolean => rcases h with rfl | rfl <;> exact ⟨rfl, rfl⟩
  all_goals exact ⟨rfl, rfl⟩
theorem okf_fv {t : FieldType} {v : AV} (h : okf t v = true) : (∃ x, v = .inl x ∧ isP t = true) ∨ (∃ o, v = .inr (.inl o) ∧ isP t = false) := by
  rcases v with x | (o | x)
  · exact Or.inl ⟨x, rfl, by cases t <;> simp [okf] at h <;> rfl⟩
  · exact Or.inr ⟨o, rfl, by cases t <;> simp [okf] at h <;> rfl⟩
  · cases t <;> simp [okf] at h
theorem putf_fv {A : AH} {c0 r f : Nat} {v : AV} (h : okf (xt c0 f) v = true) (j : Nat) : fv (putf A r f v) c0 r j = if j = f then v else fv A c0 r j := by
  rcases okf_fv h with ⟨x, rfl, hp⟩ | ⟨o, rfl, hp⟩
  · by_cases hj : j = f
    · subst hj; simp [fv, putf, sI, u2, hp]
    · simp [fv, putf, sI, u2, hj]
  · by_cases hj : j = f
    · subst hj; simp [fv, putf, sR, u2, hp]
    · simp [fv, putf, sR, u2, hj]
theorem putf_1 (A : AH) (r f : Nat) (v : AV) : (putf A r f v).1 = A.1 ∧ (putf A r f v).2.1 = A.2.1 := by
  rcases v with x | (o | x) <;> exact ⟨rfl, rfl⟩
theorem putf_2 (A : AH) (r f : Nat) (v : AV) (k : Nat) (hk : k ≠ r) : (putf A r f v).2.2.1 k = A.2.2.1 k ∧ (putf A r f v).2.2.2 k = A.2.2.2 k := by
  rcases v with x | (o | x)
  · exact ⟨by funext j; simp [putf, sI, u2, hk], rfl⟩
  · exact ⟨rfl, by funext j; simp [putf, sR, u2, hk]⟩
  · exact ⟨rfl, rfl⟩
theorem s_ptf (cx : Cx dC dI dA B b Ls xs k p s m args meth c) (hH : HP dC dI dA B b Ls xs A H) (hF : fr B s H locs) {x c0 f pl r : Nat} {v : AV} {rest : List AV} (hd : decode (mB k) pc = .ok (.putfield x, 3)) (hlk : xF.lookup (mO k, x) = some (c0, f, pl)) (ht : (A.2.1 r).1 = c0) (hok : okf (xt c0 f) v = true) (hfin : (xT c0 f).2.2.2 = true → (mY k).name = "<init>" ∧ mO k = c0)
    (kk : ∀ H1 locs1, HP dC dI dA B b Ls xs (putf A r f v) H1 → fr B s H1 locs1 → W p l e R s m args below meth c H1 locs1 cells slots Q (F0 m (pc + 3) arr (rest.map (cvv B b)))) : W p l e R s m args below meth c H locs cells slots Q (F0 m pc arr ((v :: .inr (.inl (some r)) :: rest : List AV).map (cvv B b))) := by
  obtain ⟨hx, hb, hr, hml, hown, hlocks, hnm, hts, hK, hX, hbB⟩ := cx
  have hH0 := hH
  obtain ⟨h1, h2, h3, h4, h5, h6, h7⟩ := hH
  obtain ⟨f1, f2, f3, f4⟩ := xF_get hlk
  have hrn := h3 r (by omega)
  have hrS : r ≠ SC := by omega
  obtain ⟨q0, -, -⟩ := h4 r hrn
  rw [ht] at q0
  obtain ⟨cell, q1, q2, q3, q4⟩ := q0 f2
  obtain ⟨hS, hfc, kC, hkC, hkind⟩ := hK.1 c0 f2
  obtain ⟨cf, kf, fi, fd, hi, hsl⟩ := hS f f3
  have hi2 := hi
  rw [f4] at hi2
  obtain ⟨hn, hfit⟩ := okf_fits hok B b
  have hap : ∀ x y, x < xN c0 → y < xN c0 → x ≠ y → (dI c0) x ≠ (dI c0) y := by
    intro x y hx hy hne
    obtain ⟨_, _, _, fa, hia, ea⟩ := hS x hx
    obtain ⟨_, _, _, fb, hib, eb⟩ := hS y hy
    rw [← ea, ← eb]
    refine u_apart (u_lays hts (xi_lay f2) hx) (u_lays hts (xi_lay f2) hy) hia hib ?_
    rw [(State.fieldFound?_type hia (xt_ok c0 f2 x hx)).1, (State.fieldFound?_type hib (xt_ok c0 f2 y hy)).1]
    exact xn_ok c0 f2 x hx y hy hne
  have key : ∀ H1 : Heap, H1[B + r]? = some (cell.setSlot fd.slot (cvv B b v)) → H1.size = H.size → (∀ q, q ≠ B + r → H1[q]? = H[q]?) → HP dC dI dA B b Ls xs (putf A r f v) H1 := by
    intro H1 e1 e2 e3
    refine hH0.set (putf_1 A r f v).1 (putf_1 A r f v).2 hrn (fun k hk => (putf_2 A r f v k hk).1) (fun k hk => (putf_2 A r f v k hk).2) e2 e3 ?_
    refine ⟨fun _ => ?_, fun t ht2 q => ?_, fun q => ?_⟩
    · rw [(putf_1 A r f v).2, ht]
      rw [hsl] at e1
      refine ⟨_, e1, q2, q3, fun j hj => ?_⟩
      rw [t_set q4 hap f3 (cvv B b v) j hj]
      dsimp only
      rw [putf_fv hok]
      by_cases hjf : j = f <;> simp [updV, hjf]
    · rw [(putf_1 A r f v).2, ht] at q; omega
    · rw [(putf_1 A r f v).2, ht] at q; omega
  show W p l e R s m args below meth c H locs cells slots Q (F0 m pc arr (cvv B b v :: (Value.ref (if r = SC then b else B + r)) :: rest.map (cvv B b)))
  rw [if_neg hrS]
  cases hff : (xT c0 f).2.2.2 with
  | false =>
    have hlay := hts _ (xi_lay f2 _ (u_in_lay f3))
    unfold u_lay at hlay
    rw [if_neg (by rw [hff]; decide)] at hlay
    have hst := (u_facts hfc hkC (u_lays hts (xi_lay f2) f3) hi).1
    have h6 := u_store hfc hkC hkind hlay hi (xt_ok c0 f2 f f3) hn hfit
    refine W.putK hx hb (f := fd) ⟨hown, hts _ f1, ⟨_, _, _, hi2⟩, hst⟩ (by rw [q2]; exact h6) q1 q3 (by rw [hsl]; exact k2_hasslot (q4 f f3)) rfl rfl hd fun H' e1 e2 e3 => ?_
    exact kk H' _ (key H' e1 e2 e3) (hF.put e2 e3)
  | true =>
    obtain ⟨hini, hoc⟩ := hfin hff
    have hlay := hts _ (xi_lay f2 _ (u_in_lay f3))
    unfold u_lay at hlay
    rw [if_pos hff] at hlay
    have hst := (u_facts hfc hkC (u_lays hts (xi_lay f2) f3) hi).1
    have hcf : m.cls = cf := by
      obtain ⟨_, _, c', _, _, _, -, -, hf', -, -, -, hown2, -⟩ := Cond.laysFinal_spec hlay
      have e1 : c' = cf := by have := hi.symm.trans hf'; simp at this; exact this.1.symm
      rw [f4] at hown2
      rw [hoc] at hown
      rw [← e1]; exact Option.some.inj (hown.symm.trans hown2)
    have h6 := u_fits hfc hkC hkind (Or.inr hlay) hi (xt_ok c0 f2 f f3) hn hfit
    refine W.putFinK hx hb hown (hts _ f1) hi2 hst hcf (hnm hini) (by rw [q2]; exact h6) q1 q3 (by rw [hsl]; exact k2_hasslot (q4 f f3)) rfl rfl hd fun H' e1 e2 e3 => ?_
    exact kk H' _ (key H' e1 e2 e3) (hF.put e2 e3)
theorem inb_not {i : Int32} {n : Nat} (h0 : 0 ≤ i) (h1 : i.toNatClampNeg < n) : ¬ (i < 0 ∨ n ≤ i.toNatClampNeg) := by
  intro h
  rcases h with h | h
  · exact absurd h (Int32.not_lt.mpr h0)
  · omega
theorem s_alen (cx : Cx dC dI dA B b Ls xs k p s m args meth c) (hH : HP dC dI dA B b Ls xs A H) (hF : fr B s H locs) {r : Nat} {rest : List AV} (hd : decode (mB k) pc = .ok (.arraylength, 1)) (ht : (A.2.1 r).1 = 10 ∨ (A.2.1 r).1 = 11 ∨ (A.2.1 r).1 = 20)
    (kk : W p l e R s m args below meth c H locs cells slots Q (F0 m (pc + 1) arr ((.inl (Int32.ofNat (A.2.1 r).2) :: rest : List AV).map (cvv B b)))) : W p l e R s m args below meth c H locs cells slots Q (F0 m pc arr ((.inr (.inl (some r)) :: rest : List AV).map (cvv B b))) := by
  obtain ⟨hx, hb, hr, hml, hown, hlocks, hnm, hts, hK, hX, hbB⟩ := cx
  obtain ⟨h1, h2, h3, h4, h5, h6, h7⟩ := hH
  show W p l e R s m args below meth c H locs cells slots Q (F0 m pc arr ((Value.ref (if r = SC then b else B + r)) :: rest.map (cvv B b)))
  rcases ht with ht | ht | ht
  · have hrn := h3 r (by omega)
    rw [if_neg (by omega)]
    obtain ⟨-, q1, -⟩ := h4 r hrn
    have q1 := q1 0 (by omega) ht
    exact W.alen (n := Int32.ofNat (A.2.1 r).2) hx hb q1 ((hK.2.1 0 (by omega)).1 _ _) (by rw [arrV_size] <;> rfl) rfl rfl hd kk
  · have hrn := h3 r (by omega)
    rw [if_neg (by omega)]
    obtain ⟨-, q1, -⟩ := h4 r hrn
    have q1 := q1 1 (by omega) ht
    exact W.alen (n := Int32.ofNat (A.2.1 r).2) hx hb q1 ((hK.2.1 1 (by omega)).1 _ _) (by rw [arrV_size] <;> rfl) rfl rfl hd kk
  · have hrS := h5 r ht
    rw [if_pos hrS]
    obtain ⟨scr, g1, g2, g3, g4, g5⟩ := hX
    rw [hrS, h6] at kk
    exact W.alen (n := Int32.ofNat Ls) hx hb (by rw [hF.2.2.1 b hbB]; exact g1) g2 (by rw [g4] <;> rfl) rfl rfl hd kk
theorem s_iald (cx : Cx dC dI dA B b Ls xs k p s m args meth c) (hH : HP dC dI dA B b Ls xs A H) (hF : fr B s H locs) {r : Nat} {i : Int32} {rest : List AV} (hd : decode (mB k) pc = .ok (.iaload, 1)) (ht : (A.2.1 r).1 = 10 ∨ (A.2.1 r).1 = 20) (hi0 : 0 ≤ i) (hi1 : i.toNatClampNeg < (A.2.1 r).2)
    (kk : W p l e R s m args below meth c H locs cells slots Q (F0 m (pc + 1) arr ((.inl (A.2.2.1 r i.toNatClampNeg) :: rest : List AV).map (cvv B b)))) : W p l e R s m args below meth c H locs cells slots Q (F0 m pc arr ((.inl i :: .inr (.inl (some r)) :: rest : List AV).map (cvv B b))) := by
  obtain ⟨hx, hb, hr, hml, hown, hlocks, hnm, hts, hK, hX, hbB⟩ := cx
  obtain ⟨h1, h2, h3, h4, h5, h6, h7⟩ := hH
  show W p l e R s m args below meth c H locs cells slots Q (F0 m pc arr (.int i :: (Value.ref (if r = SC then b else B + r)) :: rest.map (cvv B b)))
  rcases ht with ht | ht
  · have hrn := h3 r (by omega)
    rw [if_neg (by omega)]
    obtain ⟨-, q1, -⟩ := h4 r hrn
    have q1 := q1 0 (by omega) ht
    exact W.iald (v := .int (A.2.2.1 r i.toNatClampNeg)) hx hb q1 ((hK.2.1 0 (by omega)).1 _ _) (fun q => by cases q) (by rw [arrV_size]; exact inb_not hi0 hi1) (by rw [arrV_read _ _ hi1]) rfl rfl hd kk
  · have hrS := h5 r ht
    rw [if_pos hrS]
    obtain ⟨scr, g1, g2, g3, g4, g5⟩ := hX
    rw [hrS, h6] at hi1
    rw [hrS, h7] at kk
    exact W.iald (v := .int (xs i.toNatClampNeg)) hx hb (by rw [hF.2.2.1 b hbB]; exact g1) g2 g3 (by rw [g4]; exact inb_not hi0 hi1) (g5 _ hi1) rfl rfl hd kk
theorem s_cald (cx : Cx dC dI dA B b Ls xs k p s m args meth c) (hH : HP dC dI dA B b Ls xs A H) {r : Nat} {i : Int32} {rest : List AV} (hd : decode (mB k) pc = .ok (.caload, 1)) (ht : (A.2.1 r).1 = 11) (hi0 : 0 ≤ i) (hi1 : i.toNatClampNeg < (A.2.1 r).2)
    (kk : W p l e R s m args below meth c H locs cells slots Q (F0 m (pc + 1) arr ((.inl (A.2.2.1 r i.toNatClampNeg) :: rest : List AV).map (cvv B b)))) : W p l e R s m args below meth c H locs cells slots Q (F0 m pc arr ((.inl i :: .inr (.inl (some r)) :: rest : List AV).map (cvv B b))) := by
  obtain ⟨hx, hb, hr, hml, hown, hlocks, hnm, hts, hK, hX, hbB⟩ := cx
  obtain ⟨h1, h2, h3, h4, h5, h6, h7⟩ := hH
  show W p l e R s m args below meth c H locs cells slots Q (F0 m pc arr (.int i :: (Value.ref (if r = SC then b else B + r)) :: rest.map (cvv B b)))
  have hrn := h3 r (by omega)
  rw [if_neg (by omega)]
  obtain ⟨-, q1, -⟩ := h4 r hrn
  have q1 := q1 1 (by omega) ht
  exact W.cald (v := .int (A.2.2.1 r i.toNatClampNeg)) hx hb q1 ((hK.2.1 1 (by omega)).1 _ _) (fun q => by cases q) (by rw [arrV_size]; exact inb_not hi0 hi1) (by rw [arrV_read _ _ hi1]) rfl rfl hd kk
theorem HP.stored (hH : HP dC dI dA B b Ls xs A H) {r t i : Nat} {x : Int32} {H1 : Heap} (ht3 : t < 3) (ht : (A.2.1 r).1 = 10 + t) (hrn : r < A.1.1) (e : H1[B + r]? = some ((arrV (dA t) (A.2.1 r).2 (fun j => .int (A.2.2.1 r j))).setSlot i (.int x))) (z : H1.size = H.size) (oq : ∀ q, q ≠ B + r → H1[q]? = H[q]?) : HP dC dI dA B b Ls xs (sI A r i x) H1 := by
  refine hH.set rfl rfl hrn (fun k hk => by funext j; simp [sI, u2, hk]) (fun k hk => rfl) z oq ⟨fun q => ?_, fun t2 ht2 q => ?_, fun q => ?_⟩
  · change (A.2.1 r).1 < 5 at q
    omega
  · change (A.2.1 r).1 = 10 + t2 at q
    have : t2 = t := by omega
    subst this
    rw [e, arrV_store]
    show some (arrV _ (A.2.1 r).2 _) = some (arrV _ (A.2.1 r).2 _)
    congr 2
    funext j
    by_cases hj : j = i
    · subst hj; simp [updV, sI, u2]
    · simp [updV, sI, u2, hj]
  · change (A.2.1 r).1 = 13 at q
    omega
theorem s_iast (cx : Cx dC dI dA B b Ls xs k p s m args meth c) (hH : HP dC dI dA B b Ls xs A H) (hF : fr B s H locs) {r : Nat} {i x : Int32} {rest : List AV} (hd : decode (mB k) pc = .ok (.iastore, 1)) (ht : (A.2.1 r).1 = 10) (hi0 : 0 ≤ i) (hi1 : i.toNatClampNeg < (A.2.1 r).2)
    (kk : ∀ H1 locs1, HP dC dI dA B b Ls xs (sI A r i.toNatClampNeg x) H1 → fr B s H1 locs1 → W p l e R s m args below meth c H1 locs1 cells slots Q (F0 m (pc + 1) arr (rest.map (cvv B b)))) : W p l e R s m args below meth c H locs cells slots Q (F0 m pc arr ((.inl x :: .inl i :: .inr (.inl (some r)) :: rest : List AV).map (cvv B b))) := by
  obtain ⟨hx, hb, hr, hml, hown, hlocks, hnm, hts, hK, hX, hbB⟩ := cx
  have hrn := hH.2.2.1 r (by omega)
  have hSC := hH.2.1
  show W p l e R s m args below meth c H locs cells slots Q (F0 m pc arr (.int x :: .int i :: (Value.ref (if r = SC then b else B + r)) :: rest.map (cvv B b)))
  rw [if_neg (by omega)]
  obtain ⟨-, q1, -⟩ := hH.2.2.2.1 r hrn
  have q1 := q1 0 (by omega) ht
  refine W.iast hx hb q1 ((hK.2.1 0 (by omega)).1 _ _) (fun q => by cases q) (by rw [arrV_size]; exact inb_not hi0 hi1) rfl rfl hd fun H1 e z oq => ?_
  exact kk H1 _ (hH.stored (t := 0) (by omega) ht hrn e z oq) (hF.put z oq)
theorem s_cast (cx : Cx dC dI dA B b Ls xs k p s m args meth c) (hH : HP dC dI dA B b Ls xs A H) (hF : fr B s H locs) {r : Nat} {i x : Int32} {rest : List AV} (hd : decode (mB k) pc = .ok (.castore, 1)) (ht : (A.2.1 r).1 = 11) (hi0 : 0 ≤ i) (hi1 : i.toNatClampNeg < (A.2.1 r).2)
    (kk : ∀ H1 locs1, HP dC dI dA B b Ls xs (sI A r i.toNatClampNeg (vp_nar .char x)) H1 → fr B s H1 locs1 → W p l e R s m args below meth c H1 locs1 cells slots Q (F0 m (pc + 1) arr (rest.map (cvv B b)))) : W p l e R s m args below meth c H locs cells slots Q (F0 m pc arr ((.inl x :: .inl i :: .inr (.inl (some r)) :: rest : List AV).map (cvv B b))) := by
  obtain ⟨hx, hb, hr, hml, hown, hlocks, hnm, hts, hK, hX, hbB⟩ := cx
  have hrn := hH.2.2.1 r (by omega)
  have hSC := hH.2.1
  show W p l e R s m args below meth c H locs cells slots Q (F0 m pc arr (.int x :: .int i :: (Value.ref (if r = SC then b else B + r)) :: rest.map (cvv B b)))
  rw [if_neg (by omega)]
  obtain ⟨-, q1, -⟩ := hH.2.2.2.1 r hrn
  have q1 := q1 1 (by omega) ht
  refine W.cast hx hb q1 ((hK.2.1 1 (by omega)).1 _ _) (fun q => by cases q) (by rw [arrV_size]; exact inb_not hi0 hi1) rfl rfl hd fun H1 e z oq => ?_
  exact kk H1 _ (hH.stored (t := 1) (by omega) ht hrn e z oq) (hF.put z oq)
theorem s_aald (cx : Cx dC dI dA B b Ls xs k p s m args meth c) (hH : HP dC dI dA B b Ls xs A H) {r : Nat} {i : Int32} {rest : List AV} (hd : decode (mB k) pc = .ok (.aaload, 1)) (ht : (A.2.1 r).1 = 13) (hi0 : 0 ≤ i) (hi1 : i.toNatClampNeg < (A.2.1 r).2)
    (kk : W p l e R s m args below meth c H locs cells slots Q (F0 m (pc + 1) arr ((.inr (.inl (A.2.2.2 r i.toNatClampNeg)) :: rest : List AV).map (cvv B b)))) : W p l e R s m args below meth c H locs cells slots Q (F0 m pc arr ((.inl i :: .inr (.inl (some r)) :: rest : List AV).map (cvv B b))) := by
  obtain ⟨hx, hb, hr, hml, hown, hlocks, hnm, hts, hK, hX, hbB⟩ := cx
  obtain ⟨h1, h2, h3, h4, h5, h6, h7⟩ := hH
  show W p l e R s m args below meth c H locs cells slots Q (F0 m pc arr (.int i :: (Value.ref (if r = SC then b else B + r)) :: rest.map (cvv B b)))
  have hrn := h3 r (by omega)
  rw [if_neg (by omega)]
  obtain ⟨-, -, q1⟩ := h4 r hrn
  have q1 := q1 ht
  exact W.aald (v := cvv B b (.inr (.inl (A.2.2.2 r i.toNatClampNeg)))) (ty := .object "BusRack$Rack") hx hb q1 ((hK.2.1 3 (by omega)).1 _ _) rfl (fun q => by cases q) (by rw [arrV_size]; exact inb_not hi0 hi1) (by rw [arrV_read _ _ hi1]) rfl rfl hd kk
theorem s_aast (cx : Cx dC dI dA B b Ls xs k p s m args meth c) (hH : HP dC dI dA B b Ls xs A H) (hF : fr B s H locs) {r v : Nat} {i : Int32} {rest : List AV} (hd : decode (mB k) pc = .ok (.aastore, 1)) (ht : (A.2.1 r).1 = 13) (hv : (A.2.1 v).1 = 2) (hi0 : 0 ≤ i) (hi1 : i.toNatClampNeg < (A.2.1 r).2)
    (kk : ∀ H1 locs1, HP dC dI dA B b Ls xs (sR A r i.toNatClampNeg (some v)) H1 → fr B s H1 locs1 → W p l e R s m args below meth c H1 locs1 cells slots Q (F0 m (pc + 1) arr (rest.map (cvv B b)))) : W p l e R s m args below meth c H locs cells slots Q (F0 m pc arr ((.inr (.inl (some v)) :: .inl i :: .inr (.inl (some r)) :: rest : List AV).map (cvv B b))) := by
  obtain ⟨hx, hb, hr, hml, hown, hlocks, hnm, hts, hK, hX, hbB⟩ := cx
  have hrn := hH.2.2.1 r (by omega)
  have hvn := hH.2.2.1 v (by omega)
  have hSC := hH.2.1
  show W p l e R s m args below meth c H locs cells slots Q (F0 m pc arr ((Value.ref (if v = SC then b else B + v)) :: .int i :: (Value.ref (if r = SC then b else B + r)) :: rest.map (cvv B b)))
  rw [if_neg (show ¬ r = SC by omega), if_neg (show ¬ v = SC by omega)]
  obtain ⟨-, -, q1⟩ := hH.2.2.2.1 r hrn
  have q1 := q1 ht
  obtain ⟨g0, -, -⟩ := hH.2.2.2.1 v hvn
  rw [hv] at g0
  obtain ⟨cellV, g1, g2, g3, -⟩ := g0 (by omega)
  obtain ⟨kA, comp, k1, k2, k3⟩ := hK.2.2.1
  have hcls := (hK.1 2 (by omega)).2
  have hcomp : comp = dC 2 := Option.some.inj (k3.symm.trans hcls.1)
  subst hcomp
  obtain ⟨kC, hkC, -⟩ := hcls.2
  refine W.aast hx hb q1 (fun q h => by cases h) (fun h => by cases h) k1 k2 rfl hkC ⟨Int32.not_lt.mpr hi0, by rw [arrV_size]; exact hi1⟩ g1 (fun q h => by rw [g3] at h; cases h) (by rw [g2]; exact hkC) (by rw [g2]; exact va_assign hcls) rfl rfl hd fun H1 e z oq => ?_
  refine kk H1 _ (hH.set rfl rfl hrn (fun k hk => rfl) (fun k hk => by funext j; simp [sR, u2, hk]) z oq ⟨fun q => ?_, fun t2 ht2 q => ?_, fun q => ?_⟩) (hF.put z oq)
  · change (A.2.1 r).1 < 5 at q; omega
  · change (A.2.1 r).1 = 10 + t2 at q; omega
  · rw [e, arrV_store]
    show some (arrV _ (A.2.1 r).2 _) = some (arrV _ (A.2.1 r).2 _)
    congr 2
    funext j
    by_cases hj : j = i.toNatClampNeg
    · subst hj; simp only [updV, sR, u2, if_true]; show _ = cvv B b (.inr (.inl (some v))); show _ = Value.ref _; rw [if_neg (by omega)]
    · simp [updV, sR, u2, hj]
theorem s_newO (cx : Cx dC dI dA B b Ls xs k p s m args meth c) (hH : HP dC dI dA B b Ls xs A H) (hF : fr B s H locs) {x c0 pl : Nat} (hd : decode (mB k) pc = .ok (.new x, 3)) (hlk : xK.lookup (mO k, x) = some (c0, pl)) (hn : A.1.1 + 1 < SC) (hc1 : cells + 1 ≤ R.cells) (hs1 : slots + xN c0 ≤ R.slots)
    (kk : ∀ H1, HP dC dI dA B b Ls xs (nw A (c0, 0) (xN c0)) H1 → fr B s H1 locs → W p l e R s m args below meth c H1 locs (cells + 1) (slots + xN c0) Q (F0 m (pc + 3) arr ((.inr (.inl (some A.1.1)) :: st : List AV).map (cvv B b)))) : W p l e R s m args below meth c H locs cells slots Q (F0 m pc arr (st.map (cvv B b))) := by
  obtain ⟨hx, hb, hr, hml, hown, hlocks, hnm, hts, hK, hX, hbB⟩ := cx
  obtain ⟨f1, f2⟩ := xK_get hlk
  have hKn := hK.1 c0 f2
  refine W.newcK hx hb hown (hts _ f1) (hts _ (xi_inst f2)) (hts _ (xi_ini f2)) rfl hd hc1 hs1 hKn.2.1 rfl fun H1 kC hkC e1 z1 o1 => ?_
  have hsz : H.size = B + A.1.1 := hH.1
  have hb0 := u_born (xt c0) hts (xi_lay f2) hKn hkC e1 (xt_ok c0 f2)
  rw [hsz]
  have hk := kk H1 (hH.new (by show c0 < 14; omega) hn z1 o1 ⟨fun _ => ?_, fun t ht q => ?_, fun q => ?_⟩) (hF.new z1 o1)
  · have e : (Value.ref (B + A.1.1)) = cvv B b (.inr (.inl (some A.1.1))) := by show _ = Value.ref _; rw [if_neg (by omega)]
    rw [e]
    exact hk
  · have ht : (nw A (c0, 0) (xN c0)).2.1 A.1.1 = (c0, 0) := by simp [nw]
    rw [ht, ← hsz]
    refine hb0.to fun j hj => ?_
    have : isP (xt c0 j) = true → defaultValue (xt c0 j) = .int 0 := by
      intro h; cases hq : xt c0 j <;> rw [hq] at h <;> first | rfl | (simp [isP] at h)
    by_cases hp : isP (xt c0 j) = true
    · rw [this hp]; simp [fv, hp, nw, cvv]
    · have h2 : defaultValue (xt c0 j) = .null := by
        have : ∀ c, c < 5 → ∀ j, j < xN c → isP (xt c j) = true ∨ defaultValue (xt c j) = .null := by decide +kernel
        rcases this c0 f2 j hj with q | q
        · exact absurd q hp
        · exact q
      rw [h2]; simp [fv, hp, nw, cvv]
  · simp [nw] at q; omega
  · simp [nw] at q; omega
end STEP
end
section
section STEP
variable {dC : Nat → ClassId} {dI : Nat → Nat → Nat} {dA : Nat → ClassId} {B b Ls : Nat} {xs : Nat → Int32} {k : Nat}
variable {p : Program} {l : Launch} {e : Env} {R : Room} {s : State} {m : MethodId} {args : Array Value} {below : List Frame} {meth : Method} {c : Code} {Q : State → Prop}
variable {pc : Nat} {L st : List AV} {A : AH} {H : Heap} {locs : List Loc} {arr : Array Slot} {cells slots : Nat}
theorem s_newP (cx : Cx dC dI dA B b Ls xs k p s m args meth c) (hH : HP dC dI dA B b Ls xs A H) (hF : fr B s H locs) {t : Nat} {atype : ArrayType} {n : Int32} {rest : List AV} (ht3 : t < 3) (hty : newarray.typeOf atype = aty t) (hw : Cond.arrayClass (aty t) ∈ gW) (hdf : defaultValue (aty t) = .int 0) (hcb : componentBytes (aty t) ≤ 4)
    (hd : decode (mB k) pc = .ok (.newarray atype, 2)) (h0 : 0 ≤ n) (h1 : n.toNatClampNeg ≤ 100000) (hn : A.1.1 + 1 < SC) (hc1 : cells + 1 ≤ R.cells) (hs1 : slots + n.toNatClampNeg ≤ R.slots)
    (kk : ∀ H1, HP dC dI dA B b Ls xs (nw A (10 + t, n.toNatClampNeg) n.toNatClampNeg) H1 → fr B s H1 locs → W p l e R s m args below meth c H1 locs (cells + 1) (slots + n.toNatClampNeg) Q (F0 m (pc + 2) arr ((.inr (.inl (some A.1.1)) :: rest : List AV).map (cvv B b)))) : W p l e R s m args below meth c H locs cells slots Q (F0 m pc arr ((.inl n :: rest : List AV).map (cvv B b))) := by
  obtain ⟨hx, hb, hr, hml, hown, hlocks, hnm, hts, hK, hX, hbB⟩ := cx
  have hbytes : n.toNatClampNeg * componentBytes (aty t) ≤ 536870912 := Nat.le_trans (Nat.mul_le_mul h1 hcb) (Nat.le_of_ble_eq_true rfl)
  refine va_newaK hx hb (atype := atype) (by rw [hty]; exact hts _ hw) rfl hd rfl (Int32.not_lt.mpr h0) rfl (by rw [hty]; exact hbytes) hc1 hs1 rfl fun H1 cA e1 z1 o1 hAr hNm => ?_
  rw [hty] at e1 hNm
  have hcA : cA = dA t := Option.some.inj (hNm.symm.trans (hK.2.1 t (by omega)).2)
  subst hcA
  have hsz : H.size = B + A.1.1 := hH.1
  have hk := kk H1 (hH.new (by show 10 + t < 14; omega) hn z1 o1 ⟨fun q => ?_, fun t2 ht2 q => ?_, fun q => ?_⟩) (hF.new z1 o1)
  · have ev : (Value.ref (B + A.1.1)) = cvv B b (.inr (.inl (some A.1.1))) := by show _ = Value.ref _; rw [if_neg (by omega)]
    show W p l e R s m args below meth c H1 locs (cells + 1) (slots + n.toNatClampNeg) Q (F0 m (pc + 2) arr (Value.ref H.size :: rest.map (cvv B b)))
    rw [hsz, ev]
    exact hk
  · simp [nw] at q; omega
  · simp only [nw, if_true] at q
    have : t2 = t := by omega
    subst this
    rw [← hsz, e1, hdf]
    simp [nw]
  · simp only [nw, if_true] at q
    omega
theorem s_newQ (cx : Cx dC dI dA B b Ls xs k p s m args meth c) (hH : HP dC dI dA B b Ls xs A H) (hF : fr B s H locs) {x pl : Nat} {n : Int32} {rest : List AV}
    (hd : decode (mB k) pc = .ok (.anewarray x, 3)) (hlk : xK.lookup (mO k, x) = some (2, pl)) (h0 : 0 ≤ n) (h1 : n.toNatClampNeg ≤ 100000) (hn : A.1.1 + 1 < SC) (hc1 : cells + 1 ≤ R.cells) (hs1 : slots + n.toNatClampNeg ≤ R.slots)
    (kk : ∀ H1, HP dC dI dA B b Ls xs (nw A (13, n.toNatClampNeg) n.toNatClampNeg) H1 → fr B s H1 locs → W p l e R s m args below meth c H1 locs (cells + 1) (slots + n.toNatClampNeg) Q (F0 m (pc + 3) arr ((.inr (.inl (some A.1.1)) :: rest : List AV).map (cvv B b)))) : W p l e R s m args below meth c H locs cells slots Q (F0 m pc arr ((.inl n :: rest : List AV).map (cvv B b))) := by
  obtain ⟨hx, hb, hr, hml, hown, hlocks, hnm, hts, hK, hX, hbB⟩ := cx
  obtain ⟨f1, f2⟩ := xK_get hlk
  have hbytes : n.toNatClampNeg * 4 ≤ 536870912 := Nat.le_trans (Nat.mul_le_mul h1 (Nat.le_refl 4)) (Nat.le_of_ble_eq_true rfl)
  refine W.anew (C := "BusRack$Rack") hx hb hown (hts _ f1) (va_AO.use hK.2.2.2.1) rfl hd rfl (Int32.not_lt.mpr h0) hbytes hc1 hs1 fun cA kA comp g1 g2 g3 g4 => ?_
  have hcA : cA = dA 3 := Option.some.inj (g1.symm.trans (hK.2.1 3 (by omega)).2)
  subst hcA
  generalize hH1 : H.push ({ cls := dA 3, slots := Array.replicate n.toNatClampNeg .null, vm := .none } : Cell) = H1
  have z1 : H1.size = H.size + 1 := by rw [← hH1, Array.size_push]
  have e1 : H1[H.size]? = some (arrV (dA 3) n.toNatClampNeg (fun _ => .null)) := by rw [← hH1, Array.getElem?_push_size, ← arrV_new]
  have o1 : ∀ q : Nat, q < H.size → H1[q]? = H[q]? := fun q hq => by rw [← hH1, Array.getElem?_push, if_neg (Nat.ne_of_lt hq)]
  have hsz : H.size = B + A.1.1 := hH.1
  have hk := kk H1 (hH.new (by show 13 < 14; omega) hn z1 o1 ⟨fun q => ?_, fun t2 ht2 q => ?_, fun q => ?_⟩) (hF.new z1 o1)
  · have ev : (Value.ref (B + A.1.1)) = cvv B b (.inr (.inl (some A.1.1))) := by show _ = Value.ref _; rw [if_neg (by have := hH.2.1; omega)]
    show W p l e R s m args below meth c H1 locs (cells + 1) (slots + n.toNatClampNeg) Q (F0 m (pc + 3) arr (Value.ref H.size :: rest.map (cvv B b)))
    rw [hsz, ev]
    exact hk
  · simp [nw] at q
  · simp only [nw, if_true] at q
    omega
  · rw [← hsz, e1]
    simp [nw, cvv]
theorem cat_sum (B b : Nat) (r : List AV) : ((r.map (cvv B b)).map (fun v => v.category)).sum ≤ 2 * r.length := by
  induction r with
  | nil => exact Nat.le_refl 0
  | cons x r ih =>
    have := cvv_cat2 B b x
    rw [List.map_cons, List.map_cons, List.sum_cons, List.length_cons]
    omega
theorem s_cpy (cx : Cx dC dI dA B b Ls xs k p s m args meth c) (hH : HP dC dI dA B b Ls xs A H) (hF : fr B s H locs) (hLs : arr.size = mL k) {x pl pl2 a0 a : Nat} {sp dp n : Int32} {rest : List AV} (hR : 1 ≤ R.frames ∧ 40 ≤ R.locals)
    (hd : decode (mB k) pc = .ok (.invokestatic x, 3)) (hlk : xI.lookup (mO k, x) = some (6, pl, pl2)) (hrest : rest.length ≤ 2) (ha : (A.2.1 a).1 = 10) (ha0 : (A.2.1 a0).1 = 10) (h1 : 0 ≤ sp) (h2 : 0 ≤ dp) (h3 : 0 ≤ n) (h4 : sp.toNatClampNeg + n.toNatClampNeg ≤ (A.2.1 a0).2) (h5 : dp.toNatClampNeg + n.toNatClampNeg ≤ (A.2.1 a).2)
    (kk : ∀ H1 locs1, HP dC dI dA B b Ls xs (cpA A a0 a sp.toNatClampNeg dp.toNatClampNeg n.toNatClampNeg) H1 → fr B s H1 locs1 → W p l e R s m args below meth c H1 locs1 cells slots Q (F0 m (pc + 3) arr (rest.map (cvv B b)))) : W p l e R s m args below meth c H locs cells slots Q (F0 m pc arr ((.inl n :: .inl dp :: .inr (.inl (some a)) :: .inl sp :: .inr (.inl (some a0)) :: rest : List AV).map (cvv B b))) := by
  obtain ⟨hx, hb, hr, hml, hown, hlocks, hnm, hts, hK, hX, hbB⟩ := cx
  have hSC := hH.2.1
  have han := hH.2.2.1 a (by omega)
  have ha0n := hH.2.2.1 a0 (by omega)
  obtain ⟨-, q1, -⟩ := hH.2.2.2.1 a han
  have hc1 := q1 0 (by omega) ha
  obtain ⟨-, q0, -⟩ := hH.2.2.2.1 a0 ha0n
  have hc0 := q0 0 (by omega) ha0
  have nn : ∀ z : Int32, 0 ≤ z → z.toInt = (z.toNatClampNeg : Int) := by
    intro z hz
    have hz0 : (0 : Int) ≤ z.toInt := by simpa using Int32.le_iff_toInt_le.mp hz
    show z.toInt = ((z.toInt.toNat : Nat) : Int)
    omega
  have hsum : ((rest.map (cvv B b)).map (fun v => v.category)).sum ≤ 4 := Nat.le_trans (cat_sum B b rest) (by omega)
  show W p l e R s m args below meth c H locs cells slots Q (F0 m pc arr (.int n :: .int dp :: (Value.ref (if a = SC then b else B + a)) :: .int sp :: (Value.ref (if a0 = SC then b else B + a0)) :: rest.map (cvv B b)))
  rw [if_neg (show ¬ a = SC by omega), if_neg (show ¬ a0 = SC by omega)]
  intro T hT X
  obtain ⟨-, k0, hk0, cm0, hkk0⟩ := (hK.2.1 0 (by omega)).1 (A.2.1 a0).2 (fun j => .int (A.2.2.1 a0 j))
  obtain ⟨-, k1, hk1, cm1, hkk1⟩ := (hK.2.1 0 (by omega)).1 (A.2.1 a).2 (fun j => .int (A.2.2.1 a j))
  obtain ⟨vm', X', step⟩ := X.arraycopy hx hown (hts _ (xI_6 hlk)) (hts _ (gW_of xa_nat xa_good)) (hts _ xa_stat) (hts _ xa_ini) (src := B + a0) (dst := B + a) (cs := arrV (dA 0) (A.2.1 a0).2 (fun j => .int (A.2.2.1 a0 j))) (cd := arrV (dA 0) (A.2.1 a).2 (fun j => .int (A.2.2.1 a j))) (srcPos := sp) (destPos := dp) (n := n) (by rw [hT]; exact hc0) (by rw [hT]; exact hc1)
    (fun _ h => by cases h) (fun _ h => by cases h) (fun h => by cases h) (fun h => by cases h) hk0 hk1 hkk0 hkk1 (by simp [aty, refKind]) (Int32.not_lt.mpr h1) (Int32.not_lt.mpr h2) (Int32.not_lt.mpr h3)
    (by rw [nn sp h1, nn n h3, arrV_size]; omega)
    (by rw [nn dp h2, nn n h3, arrV_size]; omega)
    (fun vm₁ _ i hi => by
      have e : (arrV (dA 0) (A.2.1 a0).2 (fun j => .int (A.2.2.1 a0 j))).slots.getD (sp.toNatClampNeg + i) .null = .int (A.2.2.1 a0 (sp.toNatClampNeg + i)) := by
        rw [Array.getD_eq_getD_getElem?, arrV_read _ _ (by omega)]
        rfl
      refine ⟨?_, ?_⟩
      · rw [e]
        exact rfl
      · rw [e]
        exact trivial)
    (g := F0 m pc arr (.int n :: .int dp :: .ref (B + a) :: .int sp :: .ref (B + a0) :: rest.map (cvv B b))) rfl (by show arr.size = _; rw [hml, hLs]) (rest := rest.map (cvv B b)) rfl (by rw [hb]; exact hd) hR.1 (by
      show 2 * 0 + _ + _ ≤ _
      have : nativeFrameWords "java/lang/System" "arraycopy" 5 + 11 ≤ 30 := by decide +kernel
      omega)
  have e1 : copied (arrV (dA 0) (A.2.1 a0).2 (fun j => .int (A.2.2.1 a0 j))) (arrV (dA 0) (A.2.1 a).2 (fun j => .int (A.2.2.1 a j))) sp dp n = arrV (dA 0) (A.2.1 a).2 (fun j => .int (va_cpy (A.2.2.1 a0) (A.2.2.1 a) sp.toNatClampNeg dp.toNatClampNeg n.toNatClampNeg j)) := va_copied (fun z => .int z) (dA 0) (dA 0) (A.2.2.1 a0) (A.2.2.1 a) h4
  rw [e1] at X' step
  generalize hcell : arrV (dA 0) (A.2.1 a).2 (fun j => .int (va_cpy (A.2.2.1 a0) (A.2.2.1 a) sp.toNatClampNeg dp.toNatClampNeg n.toNatClampNeg j)) = cell at X' step
  have hl : B + a < H.size := (Array.getElem?_eq_some_iff.mp hc1).1
  have hheap : ((T.setVm vm').setCell (B + a) cell).heap = H.setIfInBounds (B + a) cell := by rw [← hT]; rfl
  have oq : ∀ q : Nat, q ≠ B + a → (H.setIfInBounds (B + a) cell)[q]? = H[q]? := fun q hq => by simp [Array.getElem?_setIfInBounds, Ne.symm hq]
  have eq : (H.setIfInBounds (B + a) cell)[B + a]? = some cell := by simp [Array.getElem?_setIfInBounds, hl]
  have hP1 : HP dC dI dA B b Ls xs (cpA A a0 a sp.toNatClampNeg dp.toNatClampNeg n.toNatClampNeg) (H.setIfInBounds (B + a) cell) := by
    refine hH.set rfl rfl han (fun k hk => by funext j; simp [cpA, hk]) (fun k hk => rfl) (by simp) oq ⟨fun q => ?_, fun t2 ht2 q => ?_, fun q => ?_⟩
    · change (A.2.1 a).1 < 5 at q; omega
    · change (A.2.1 a).1 = 10 + t2 at q
      have : t2 = 0 := by omega
      subst this
      rw [eq, ← hcell]
      show some (arrV _ (A.2.1 a).2 _) = some (arrV _ (A.2.1 a).2 _)
      congr 2
      funext j
      simp [cpA]
    · change (A.2.1 a).1 = 13 at q; omega
  obtain ⟨t, a1, b1⟩ := kk (H.setIfInBounds (B + a) cell) _ hP1 ⟨by simp; exact hF.1, hF.2.1, fun q hq => (oq q (by omega)).trans (hF.2.2.1 q hq), fun q hq => by
      rcases List.mem_append.mp hq with h | h
      · exact hF.2.2.2 q h
      · obtain ⟨z, -, hz⟩ := List.mem_map.mp h
        rw [← hz]
        exact Nat.le_add_right _ _⟩ _ hheap X'
  exact ⟨t, step t a1, b1⟩
theorem jmp_inv {o : Int} {pc1 : Nat} {L1 st1 : List AV} {A1 : AH} (h : jmp pc o L st A = some (.inl (pc1, L1, st1, A1))) : (pc : Int) + o = (pc1 : Int) ∧ L1 = L ∧ st1 = st ∧ A1 = A := by
  unfold jmp rg at h
  split at h
  next h0 => cases h; exact ⟨(Int.toNat_of_nonneg h0).symm, rfl, rfl, rfl⟩
  next => cases h
theorem brf_inv {o : Int} {pc1 : Nat} {L1 st1 : List AV} {A1 : AH} (h : brf pc o L st A = some (.inl (pc1, L1, st1, A1))) : (pc : Int) + o = ((((pc : Int) + o).toNat : Nat) : Int) ∧ pc1 = pc + 3 ∧ L1 = L ∧ st1 = st ∧ A1 = A := by
  unfold brf rg at h
  split at h
  next h0 => cases h; exact ⟨(Int.toNat_of_nonneg h0).symm, rfl, rfl, rfl, rfl⟩
  next => cases h
theorem newP_inv {t : Nat} {r : RS} (h : newP t pc L st A = some r) : ∃ (n : Int32) (rest : List AV), st = .inl n :: rest ∧ (0 ≤ n ∧ n.toNatClampNeg ≤ 100000 ∧ A.1.1 + 1 < SC) ∧ r = .inl (pc + 2, L, .inr (.inl (some A.1.1)) :: rest, nw A (t, n.toNatClampNeg) n.toNatClampNeg) := by
  unfold newP rg at h
  split at h
  · split at h
    next ht => cases h; exact ⟨_, _, rfl, ht, rfl⟩
    next => cases h
  · cases h
theorem il_1 {i : Instr} {len : Nat} (hl : ilok i len = true) (h : ∀ d lo hi offs, i ≠ .tableswitch d lo hi offs) : len = il i := by
  unfold ilok at hl
  split at hl
  next => exact absurd rfl (h _ _ _ _)
  next => exact eq_of_beq hl
set_option maxHeartbeats 4000000 in
theorem stepW (cx : Cx dC dI dA B b Ls xs k p s m args meth c) {len : Nat} {i : Instr} {pc1 : Nat} {L1 st1 : List AV} {A1 : AH} (hd : decode (mB k) pc = .ok (i, len)) (hl : ilok i len = true) (hn : nxd k pc i L st A = some (.inl (pc1, L1, st1, A1)))
    (hH : HP dC dI dA B b Ls xs A H) (hF : fr B s H locs) (hL : lrel B b (lgm k) (mL k) L arr) (hR : 1 ≤ R.frames ∧ 40 ≤ R.locals) (hcel : cells + (A1.1.1 - A.1.1) ≤ R.cells) (hslo : slots + (A1.1.2 - A.1.2) ≤ R.slots)
    (kk : ∀ H1 locs1 arr1, HP dC dI dA B b Ls xs A1 H1 → fr B s H1 locs1 → lrel B b (lgm k) (mL k) L1 arr1 → W p l e R s m args below meth c H1 locs1 (cells + (A1.1.1 - A.1.1)) (slots + (A1.1.2 - A.1.2)) Q (F0 m pc1 arr1 (st1.map (cvv B b)))) :
    W p l e R s m args below meth c H locs cells slots Q (F0 m pc arr (st.map (cvv B b))) := by
  have hx := cx.1
  have hb := cx.2.1
  have hown := cx.2.2.2.2.1
  have hts := cx.2.2.2.2.2.2.2.1
  have hlen : L.length = mL k := hL.2.1
  have kk0 : A1.1 = A.1 → ∀ H1 locs1 arr1, HP dC dI dA B b Ls xs A1 H1 → fr B s H1 locs1 → lrel B b (lgm k) (mL k) L1 arr1 → W p l e R s m args below meth c H1 locs1 cells slots Q (F0 m pc1 arr1 (st1.map (cvv B b))) := by
    intro he H1 locs1 arr1 a1 a2 a3
    have := kk H1 locs1 arr1 a1 a2 a3
    rw [he, Nat.sub_self, Nat.sub_self] at this
    exact this
  cases i
  case iconst n =>
    have := il_1 hl (by intros; simp); subst this
    dsimp only [nxd, rg] at hn; cases hn
    exact lv_iconst hx hb hd rfl (kk0 rfl H locs arr hH hF hL)
  case bipush n =>
    have := il_1 hl (by intros; simp); subst this
    dsimp only [nxd, rg] at hn; cases hn
    exact lv_bipush hx hb hd rfl (kk0 rfl H locs arr hH hF hL)
  case sipush n =>
    have := il_1 hl (by intros; simp); subst this
    dsimp only [nxd, rg] at hn; cases hn
    exact lv_sipush hx hb hd rfl (kk0 rfl H locs arr hH hF hL)
  case ldc x =>
    have := il_1 hl (by intros; simp); subst this
    dsimp only [nxd, rg] at hn
    split at hn
    next v hv => cases hn; exact lv_ldc hx hb hown (hts _ (xV_get hv)) hd (kk0 rfl H locs arr hH hF hL)
    next => cases hn
  case ldc_w x =>
    have := il_1 hl (by intros; simp); subst this
    dsimp only [nxd, rg] at hn
    split at hn
    next v hv => cases hn; exact lv_ldcw hx hb hown (hts _ (xV_get hv)) hd (kk0 rfl H locs arr hH hF hL)
    next => cases hn
  case iload_n n =>
    have := il_1 hl (by intros; simp); subst this
    dsimp only [nxd, ldI, rg] at hn
    split at hn
    next x hv => cases hn; exact lv_iload_n hx hb hd rfl (hL.get hv (by simp)) (kk0 rfl H locs arr hH hF hL)
    next => cases hn
  case iload n =>
    have := il_1 hl (by intros; simp); subst this
    dsimp only [nxd, ldI, rg] at hn
    split at hn
    next x hv => cases hn; exact lv_iload hx hb hd (hL.get hv (by simp)) (kk0 rfl H locs arr hH hF hL)
    next => cases hn
  case aload_n n =>
    have := il_1 hl (by intros; simp); subst this
    dsimp only [nxd, ldR, rg] at hn
    split at hn
    next x hv => cases hn; exact lv_aload_n hx hb hd rfl (hL.get hv (by simp)) (kk0 rfl H locs arr hH hF hL)
    next => cases hn
  case aload n =>
    have := il_1 hl (by intros; simp); subst this
    dsimp only [nxd, ldR, rg] at hn
    split at hn
    next x hv => cases hn; exact lv_aload hx hb hd (hL.get hv (by simp)) (kk0 rfl H locs arr hH hF hL)
    next => cases hn
  case istore_n n =>
    have := il_1 hl (by intros; simp); subst this
    dsimp only [nxd, stI, rg] at hn
    split at hn
    next x r =>
      split at hn
      next hi => cases hn; exact lv_istore_n (lv := lvL B b L) hx hb hd rfl hL.1 (by omega) rfl (fun ls h => kk0 rfl H locs ls hH hF (hL.set (v := .inl x) hi.2 rfl hi.1 h))
      next => cases hn
    next => cases hn
  case istore n =>
    have := il_1 hl (by intros; simp); subst this
    dsimp only [nxd, stI, rg] at hn
    split at hn
    next x r =>
      split at hn
      next hi => cases hn; exact lv_istore (lv := lvL B b L) hx hb hd hL.1 (by omega) rfl (fun ls h => kk0 rfl H locs ls hH hF (hL.set (v := .inl x) hi.2 rfl hi.1 h))
      next => cases hn
    next => cases hn
  case astore_n n =>
    have := il_1 hl (by intros; simp); subst this
    dsimp only [nxd, stR, rg] at hn
    split at hn
    next x r =>
      split at hn
      next hi => cases hn; exact lv_astore_n (lv := lvL B b L) hx hb hd rfl hL.1 (by omega) rfl (fun ls h => kk0 rfl H locs ls hH hF (hL.set (v := .inr (.inl (some x))) hi.2 rfl hi.1 h))
      next => cases hn
    next => cases hn
  case astore n =>
    have := il_1 hl (by intros; simp); subst this
    dsimp only [nxd, stR, rg] at hn
    split at hn
    next x r =>
      split at hn
      next hi => cases hn; exact lv_astore (lv := lvL B b L) hx hb hd hL.1 (by omega) rfl (fun ls h => kk0 rfl H locs ls hH hF (hL.set (v := .inr (.inl (some x))) hi.2 rfl hi.1 h))
      next => cases hn
    next => cases hn
  case iinc n c0 =>
    have := il_1 hl (by intros; simp); subst this
    dsimp only [nxd, rg] at hn
    split at hn
    next x hv =>
     split at hn
     next hg =>
      cases hn
      obtain ⟨j, hj⟩ := List.getElem?_of_mem (lvL_mem.mpr ⟨_, hv, by simp, rfl⟩ : (n, cvv B b (.inl x)) ∈ lvL B b L)
      have hi : n < L.length := (List.getElem?_eq_some_iff.mp hv).1
      exact lv_iinc (lv := lvL B b L) hx hb hd hL.1 hj rfl (by omega) rfl (fun ls h => kk0 rfl H locs ls hH hF (hL.set (v := .inl _) hg rfl hi h))
     next => cases hn
    next => cases hn
  case iadd =>
    have := il_1 hl (by intros; simp); subst this
    dsimp only [nxd, b2, rg] at hn; split at hn
    · cases hn; exact lv_iadd hx hb hd (kk0 rfl H locs arr hH hF hL)
    · cases hn
  case isub =>
    have := il_1 hl (by intros; simp); subst this
    dsimp only [nxd, b2, rg] at hn; split at hn
    · cases hn; exact lv_isub hx hb hd (kk0 rfl H locs arr hH hF hL)
    · cases hn
  case imul =>
    have := il_1 hl (by intros; simp); subst this
    dsimp only [nxd, b2, rg] at hn; split at hn
    · cases hn; exact lv_imul hx hb hd (kk0 rfl H locs arr hH hF hL)
    · cases hn
  case iand =>
    have := il_1 hl (by intros; simp); subst this
    dsimp only [nxd, b2, rg] at hn; split at hn
    · cases hn; exact lv_iand hx hb hd (kk0 rfl H locs arr hH hF hL)
    · cases hn
  case ixor =>
    have := il_1 hl (by intros; simp); subst this
    dsimp only [nxd, b2, rg] at hn; split at hn
    · cases hn; exact lv_ixor hx hb hd (kk0 rfl H locs arr hH hF hL)
    · cases hn
  case lload_n n =>
    have := il_1 hl (by intros; simp); subst this
    dsimp only [nxd, ldL, rg] at hn
    split at hn
    next x hv => cases hn; exact lv_lload_n hx hb hd rfl (hL.get hv (by simp)) (kk0 rfl H locs arr hH hF hL)
    next => cases hn
  case lload n =>
    have := il_1 hl (by intros; simp); subst this
    dsimp only [nxd, ldL, rg] at hn
    split at hn
    next x hv => cases hn; exact lv_lload hx hb hd (hL.get hv (by simp)) (kk0 rfl H locs arr hH hF hL)
    next => cases hn
  case lstore_n n =>
    have := il_1 hl (by intros; simp); subst this
    dsimp only [nxd, stL, rg] at hn
    split at hn
    next x r =>
      split at hn
      next hi => cases hn; exact lv_lstore_n (lv := lvL B b L) hx hb hd rfl hL.1 (by omega) rfl (fun ls h => kk0 rfl H locs ls hH hF (hL.set2 hi.2.1 hi.2.2 hi.1 h))
      next => cases hn
    next => cases hn
  case lstore n =>
    have := il_1 hl (by intros; simp); subst this
    dsimp only [nxd, stL, rg] at hn
    split at hn
    next x r =>
      split at hn
      next hi => cases hn; exact lv_lstore (lv := lvL B b L) hx hb hd hL.1 (by omega) rfl (fun ls h => kk0 rfl H locs ls hH hF (hL.set2 hi.2.1 hi.2.2 hi.1 h))
      next => cases hn
    next => cases hn
  case ldc2_w x =>
    have := il_1 hl (by intros; simp); subst this
    dsimp only [nxd, rg] at hn
    split at hn
    next v hv => cases hn; exact lv_ldc2 hx hb hown (hts _ (xVL_get hv)) hd (kk0 rfl H locs arr hH hF hL)
    next => cases hn
  case lconst n =>
    have := il_1 hl (by intros; simp); subst this
    dsimp only [nxd, rg] at hn; cases hn
    exact lv_lconst hx hb hd rfl (kk0 rfl H locs arr hH hF hL)
  case i2l =>
    have := il_1 hl (by intros; simp); subst this
    dsimp only [nxd, rg] at hn; split at hn
    · cases hn; exact lv_i2l hx hb hd rfl (kk0 rfl H locs arr hH hF hL)
    · cases hn
  case ladd =>
    have := il_1 hl (by intros; simp); subst this
    dsimp only [nxd, rg] at hn; split at hn
    · cases hn; exact lv_ladd hx hb hd (kk0 rfl H locs arr hH hF hL)
    · cases hn
  case lmul =>
    have := il_1 hl (by intros; simp); subst this
    dsimp only [nxd, rg] at hn; split at hn
    · cases hn; exact lv_lmul hx hb hd (kk0 rfl H locs arr hH hF hL)
    · cases hn
  case lcmp =>
    have := il_1 hl (by intros; simp); subst this
    dsimp only [nxd, rg] at hn; split at hn
    · cases hn; exact W.lcmp hx hb hd (kk0 rfl H locs arr hH hF hL)
    · cases hn
  case ior =>
    have := il_1 hl (by intros; simp); subst this
    dsimp only [nxd, b2, rg] at hn; split at hn
    · cases hn; exact lv_ior hx hb hd (kk0 rfl H locs arr hH hF hL)
    · cases hn
  case ishl =>
    have := il_1 hl (by intros; simp); subst this
    dsimp only [nxd, b2, rg] at hn; split at hn
    · cases hn; exact lv_ishl hx hb hd (kk0 rfl H locs arr hH hF hL)
    · cases hn
  case ishr =>
    have := il_1 hl (by intros; simp); subst this
    dsimp only [nxd, b2, rg] at hn; split at hn
    · cases hn; exact lv_ishr hx hb hd (kk0 rfl H locs arr hH hF hL)
    · cases hn
  case iushr =>
    have := il_1 hl (by intros; simp); subst this
    dsimp only [nxd, b2, rg] at hn; split at hn
    · cases hn; exact lv_iushr hx hb hd rfl (kk0 rfl H locs arr hH hF hL)
    · cases hn
  case idiv =>
    have := il_1 hl (by intros; simp); subst this
    dsimp only [nxd, rg] at hn; split at hn
    · split at hn
      · cases hn
      next hne => cases hn; exact lv_idiv hx hb hd hne (kk0 rfl H locs arr hH hF hL)
    · cases hn
  case irem =>
    have := il_1 hl (by intros; simp); subst this
    dsimp only [nxd, rg] at hn; split at hn
    · split at hn
      · cases hn
      next hne => cases hn; exact lv_irem hx hb hd hne (kk0 rfl H locs arr hH hF hL)
    · cases hn
  case ineg =>
    have := il_1 hl (by intros; simp); subst this
    dsimp only [nxd, rg] at hn; split at hn
    · cases hn; exact lv_ineg hx hb hd (kk0 rfl H locs arr hH hF hL)
    · cases hn
  case i2c =>
    have := il_1 hl (by intros; simp); subst this
    dsimp only [nxd, rg] at hn; split at hn
    · cases hn; exact lv_i2c hx hb hd rfl (kk0 rfl H locs arr hH hF hL)
    · cases hn
  case dup =>
    have := il_1 hl (by intros; simp); subst this
    dsimp only [nxd, rg] at hn; split at hn
    · split at hn
      next hv => cases hn; exact lv_dup hx hb hd (cvv_cat B b hv) (kk0 rfl H locs arr hH hF hL)
      next => cases hn
    · cases hn
  case pop =>
    have := il_1 hl (by intros; simp); subst this
    dsimp only [nxd, rg] at hn; split at hn
    · split at hn
      next hv => cases hn; exact lv_pop hx hb hd (cvv_cat B b hv) (kk0 rfl H locs arr hH hF hL)
      next => cases hn
    · cases hn
  case goto o =>
    have := il_1 hl (by intros; simp); subst this
    dsimp only [nxd] at hn
    obtain ⟨h1, rfl, rfl, rfl⟩ := jmp_inv hn
    exact lv_goto hx hb hd h1 (kk0 rfl H locs arr hH hF hL)
  case ifCond cc o =>
    have := il_1 hl (by intros; simp); subst this
    dsimp only [nxd] at hn
    split at hn
    next x r =>
      split at hn
      next hq =>
        obtain ⟨h1, rfl, rfl, rfl⟩ := jmp_inv hn
        cases cc <;> simp only [hc, decide_eq_true_eq] at hq
        · exact lv_if_eq hx hb hd h1 (fun _ => kk0 rfl H locs arr hH hF hL) (fun q => absurd hq q)
        · exact lv_if_ne hx hb hd h1 (fun _ => kk0 rfl H locs arr hH hF hL) (fun q => absurd q hq)
        · exact lv_if_lt hx hb hd h1 (fun _ => kk0 rfl H locs arr hH hF hL) (fun q => absurd hq q)
        · exact lv_if_ge hx hb hd h1 (fun _ => kk0 rfl H locs arr hH hF hL) (fun q => absurd hq q)
        · exact lv_if_gt hx hb hd h1 (fun _ => kk0 rfl H locs arr hH hF hL) (fun q => absurd hq q)
        · exact lv_if_le hx hb hd h1 (fun _ => kk0 rfl H locs arr hH hF hL) (fun q => absurd hq q)
      next hq =>
        obtain ⟨h1, rfl, rfl, rfl, rfl⟩ := brf_inv hn
        cases cc <;> simp only [hc, decide_eq_true_eq, Classical.not_not] at hq
        · exact lv_if_eq hx hb hd h1 (fun q => absurd q hq) (fun _ => kk0 rfl H locs arr hH hF hL)
        · exact lv_if_ne hx hb hd h1 (fun q => absurd hq q) (fun _ => kk0 rfl H locs arr hH hF hL)
        · exact lv_if_lt hx hb hd h1 (fun q => absurd q hq) (fun _ => kk0 rfl H locs arr hH hF hL)
        · exact lv_if_ge hx hb hd h1 (fun q => absurd q hq) (fun _ => kk0 rfl H locs arr hH hF hL)
        · exact lv_if_gt hx hb hd h1 (fun q => absurd q hq) (fun _ => kk0 rfl H locs arr hH hF hL)
        · exact lv_if_le hx hb hd h1 (fun q => absurd q hq) (fun _ => kk0 rfl H locs arr hH hF hL)
    next => cases hn
  case if_icmp cc o =>
    have := il_1 hl (by intros; simp); subst this
    dsimp only [nxd] at hn
    split at hn
    next y x r =>
      split at hn
      next hq =>
        obtain ⟨h1, rfl, rfl, rfl⟩ := jmp_inv hn
        cases cc <;> simp only [hc, decide_eq_true_eq] at hq
        · exact lv_icmp_eq hx hb hd h1 (fun _ => kk0 rfl H locs arr hH hF hL) (fun q => absurd hq q)
        · exact lv_icmp_ne hx hb hd h1 (fun _ => kk0 rfl H locs arr hH hF hL) (fun q => absurd q hq)
        · exact lv_icmp_lt hx hb hd h1 (fun _ => kk0 rfl H locs arr hH hF hL) (fun q => absurd hq q)
        · exact lv_icmp_ge hx hb hd h1 (fun _ => kk0 rfl H locs arr hH hF hL) (fun q => absurd hq q)
        · exact lv_icmp_gt hx hb hd h1 (fun _ => kk0 rfl H locs arr hH hF hL) (fun q => absurd hq q)
        · exact lv_icmp_le hx hb hd h1 (fun _ => kk0 rfl H locs arr hH hF hL) (fun q => absurd hq q)
      next hq =>
        obtain ⟨h1, rfl, rfl, rfl, rfl⟩ := brf_inv hn
        cases cc <;> simp only [hc, decide_eq_true_eq, Classical.not_not] at hq
        · exact lv_icmp_eq hx hb hd h1 (fun q => absurd q hq) (fun _ => kk0 rfl H locs arr hH hF hL)
        · exact lv_icmp_ne hx hb hd h1 (fun q => absurd hq q) (fun _ => kk0 rfl H locs arr hH hF hL)
        · exact lv_icmp_lt hx hb hd h1 (fun q => absurd q hq) (fun _ => kk0 rfl H locs arr hH hF hL)
        · exact lv_icmp_ge hx hb hd h1 (fun q => absurd q hq) (fun _ => kk0 rfl H locs arr hH hF hL)
        · exact lv_icmp_gt hx hb hd h1 (fun q => absurd q hq) (fun _ => kk0 rfl H locs arr hH hF hL)
        · exact lv_icmp_le hx hb hd h1 (fun q => absurd q hq) (fun _ => kk0 rfl H locs arr hH hF hL)
    next => cases hn
  case ifnull o =>
    have := il_1 hl (by intros; simp); subst this
    dsimp only [nxd] at hn
    split at hn
    next r =>
      obtain ⟨h1, rfl, rfl, rfl⟩ := jmp_inv hn
      exact lv_ifnullN hx hb hd h1 (kk0 rfl H locs arr hH hF hL)
    next x r =>
      dsimp only [rg] at hn
      cases hn
      exact lv_ifnull hx hb hd (kk0 rfl H locs arr hH hF hL)
    next => cases hn
  case tableswitch dd lo hi offs =>
    dsimp only [nxd, tsw] at hn
    split at hn
    next x r =>
      split at hn
      next hq =>
        obtain ⟨h1, rfl, rfl, rfl⟩ := jmp_inv hn
        exact lv_tableOut hx hb hd hq h1 (kk0 rfl H locs arr hH hF hL)
      next hq =>
        split at hn
        next o ho =>
          obtain ⟨h1, rfl, rfl, rfl⟩ := jmp_inv hn
          exact lv_tableIn hx hb hd (fun q => hq (Or.inl q)) (fun q => hq (Or.inr q)) ho h1 (kk0 rfl H locs arr hH hF hL)
        next => cases hn
    next => cases hn
  case getfield x =>
    have := il_1 hl (by intros; simp); subst this
    dsimp only [nxd, gtf, rg] at hn
    split at hn
    next c0 f pl r rest hlk =>
      split at hn
      next ht => cases hn; exact s_gtf cx hH hd hlk ht (kk0 rfl H locs arr hH hF hL)
      next => cases hn
    next => cases hn
  case putfield x =>
    have := il_1 hl (by intros; simp); subst this
    dsimp only [nxd, ptf, rg] at hn
    split at hn
    next c0 f pl v r rest hlk =>
      split at hn
      next ht => cases hn; exact s_ptf cx hH hF hd hlk ht.1 ht.2.1 ht.2.2 (fun H1 locs1 a1 a2 => kk0 (putf_1 A r f v).1 H1 locs1 arr a1 a2 hL)
      next => cases hn
    next => cases hn
  case arraylength =>
    have := il_1 hl (by intros; simp); subst this
    dsimp only [nxd, alen, rg] at hn
    split at hn
    next r rest =>
      split at hn
      next ht => cases hn; exact s_alen cx hH hF hd ht (kk0 rfl H locs arr hH hF hL)
      next => cases hn
    next => cases hn
  case iaload =>
    have := il_1 hl (by intros; simp); subst this
    dsimp only [nxd, ald, rg] at hn
    split at hn
    next i r rest =>
      split at hn
      next ht => cases hn; exact s_iald cx hH hF hd (ht.1.imp id (fun q => q.2)) ht.2.1 ht.2.2 (kk0 rfl H locs arr hH hF hL)
      next => cases hn
    next => cases hn
  case caload =>
    have := il_1 hl (by intros; simp); subst this
    dsimp only [nxd, ald, rg] at hn
    split at hn
    next i r rest =>
      split at hn
      next ht => cases hn; exact s_cald cx hH hd (ht.1.elim id (fun q => by omega)) ht.2.1 ht.2.2 (kk0 rfl H locs arr hH hF hL)
      next => cases hn
    next => cases hn
  case iastore =>
    have := il_1 hl (by intros; simp); subst this
    dsimp only [nxd, ast, rg] at hn
    split at hn
    next x i r rest =>
      split at hn
      next ht => cases hn; exact s_iast cx hH hF hd ht.1 ht.2.1 ht.2.2 (fun H1 locs1 a1 a2 => kk0 rfl H1 locs1 arr a1 a2 hL)
      next => cases hn
    next => cases hn
  case castore =>
    have := il_1 hl (by intros; simp); subst this
    dsimp only [nxd, ast, rg] at hn
    split at hn
    next x i r rest =>
      split at hn
      next ht => cases hn; exact s_cast cx hH hF hd ht.1 ht.2.1 ht.2.2 (fun H1 locs1 a1 a2 => kk0 rfl H1 locs1 arr a1 a2 hL)
      next => cases hn
    next => cases hn
  case aaload =>
    have := il_1 hl (by intros; simp); subst this
    dsimp only [nxd, aldR, rg] at hn
    split at hn
    next i r rest =>
      split at hn
      next ht => cases hn; exact s_aald cx hH hd ht.1 ht.2.1 ht.2.2 (kk0 rfl H locs arr hH hF hL)
      next => cases hn
    next => cases hn
  case aastore =>
    have := il_1 hl (by intros; simp); subst this
    dsimp only [nxd, astR, rg] at hn
    split at hn
    next v i r rest =>
      split at hn
      next ht => cases hn; exact s_aast cx hH hF hd ht.1 ht.2.1 ht.2.2.1 ht.2.2.2 (fun H1 locs1 a1 a2 => kk0 rfl H1 locs1 arr a1 a2 hL)
      next => cases hn
    next => cases hn
  case new x =>
    have := il_1 hl (by intros; simp); subst this
    dsimp only [nxd, newO, rg] at hn
    split at hn
    next c0 pl hlk =>
      split at hn
      next ht =>
        cases hn
        have e1 : (nw A (c0, 0) (xN c0)).1.1 - A.1.1 = 1 := by show A.1.1 + 1 - A.1.1 = 1; omega
        have e2 : (nw A (c0, 0) (xN c0)).1.2 - A.1.2 = xN c0 := by show A.1.2 + xN c0 - A.1.2 = xN c0; omega
        rw [e1, e2] at kk
        rw [e1] at hcel
        rw [e2] at hslo
        exact s_newO cx hH hF hd hlk ht hcel hslo (fun H1 a1 a2 => kk H1 locs arr a1 a2 hL)
      next => cases hn
    next => cases hn
  case newarray at0 =>
    have := il_1 hl (by intros; simp); subst this
    have key : ∀ (t : Nat), newP (10 + t) pc L st A = some (.inl (pc1, L1, st1, A1)) → t < 3 → newarray.typeOf at0 = aty t → Cond.arrayClass (aty t) ∈ gW → defaultValue (aty t) = .int 0 → componentBytes (aty t) ≤ 4 → W p l e R s m args below meth c H locs cells slots Q (F0 m pc arr (st.map (cvv B b))) := by
      intro t hn ht3 hty hw hdf hcb
      obtain ⟨n, rest, rfl, ht, hq⟩ := newP_inv hn
      cases hq
      have e1 : (nw A (10 + t, n.toNatClampNeg) n.toNatClampNeg).1.1 - A.1.1 = 1 := by show A.1.1 + 1 - A.1.1 = 1; omega
      have e2 : (nw A (10 + t, n.toNatClampNeg) n.toNatClampNeg).1.2 - A.1.2 = n.toNatClampNeg := by show A.1.2 + n.toNatClampNeg - A.1.2 = n.toNatClampNeg; omega
      rw [e1, e2] at kk
      rw [e1] at hcel
      rw [e2] at hslo
      exact s_newP cx hH hF ht3 hty hw hdf hcb hd ht.1 ht.2.1 ht.2.2 hcel hslo (fun H1 a1 a2 => kk H1 locs arr a1 a2 hL)
    cases at0 <;> dsimp only [nxd] at hn <;> first | (cases hn; done) | skip
    case int => exact key 0 hn (by omega) rfl xn_int rfl (by decide)
    case char => exact key 1 hn (by omega) rfl xn_char rfl (by decide)
  case anewarray x =>
    have := il_1 hl (by intros; simp); subst this
    dsimp only [nxd, newQ, rg] at hn
    split at hn
    next pl n rest hlk =>
      split at hn
      next ht =>
        cases hn
        have e1 : (nw A (13, n.toNatClampNeg) n.toNatClampNeg).1.1 - A.1.1 = 1 := by show A.1.1 + 1 - A.1.1 = 1; omega
        have e2 : (nw A (13, n.toNatClampNeg) n.toNatClampNeg).1.2 - A.1.2 = n.toNatClampNeg := by show A.1.2 + n.toNatClampNeg - A.1.2 = n.toNatClampNeg; omega
        rw [e1, e2] at kk
        rw [e1] at hcel
        rw [e2] at hslo
        exact s_newQ cx hH hF hd hlk ht.1 ht.2.1 ht.2.2 hcel hslo (fun H1 a1 a2 => kk H1 locs arr a1 a2 hL)
      next => cases hn
    next => cases hn
  case invokestatic x =>
    have := il_1 hl (by intros; simp); subst this
    dsimp only [nxd, ivS] at hn
    split at hn
    · dsimp only [rc] at hn; split at hn <;> cases hn
    · dsimp only [rc] at hn; split at hn <;> cases hn
    next pl pl2 hlk =>
      dsimp only [cpy, rg] at hn
      split at hn
      next n dp a sp a0 rest =>
        split at hn
        next ht =>
          cases hn
          obtain ⟨t1, t2, t3, t4, t5, t6, t7, t8⟩ := ht
          exact s_cpy cx hH hF hL.1.1 hR hd hlk t1 t2 t3 t4 t5 t6 t7 t8 (fun H1 locs1 a1 a2 => kk0 rfl H1 locs1 arr a1 a2 hL)
        next => cases hn
      next => cases hn
    · cases hn
  case invokevirtual x =>
    dsimp only [nxd, ivV, rc] at hn
    (repeat' (split at hn)) <;> cases hn
  case invokespecial x =>
    have := il_1 hl (by intros; simp); subst this
    dsimp only [nxd, ivI] at hn
    split at hn
    · dsimp only [rc] at hn; (repeat' (split at hn)) <;> cases hn
    · dsimp only [rc] at hn; (repeat' (split at hn)) <;> cases hn
    next pl pl2 hlk =>
      rcases st with _ | ⟨_ | ((_ | r0) | _), rest⟩ <;> dsimp only at hn <;> first | (cases hn; done) | skip
      split at hn
      next ht =>
        have hsum : ((rest.map (cvv B b)).map (fun v => v.category)).sum ≤ 4 := Nat.le_trans (cat_sum B b rest) (by omega)
        dsimp only [rg] at hn
        cases hn
        exact W.objInit hx hb hown (hts _ (xI_5 hlk)) (hts _ xo_inst) (hts _ xo_code) rfl (by show arr.size = _; rw [hL.1.1, cx.2.2.2.1]) rfl hd hR.1 (by show 2 * 0 + _ + 12 ≤ _; omega) (kk0 rfl H locs arr hH hF hL)
      next => cases hn
    · cases hn
  case ireturn =>
    dsimp only [nxd, rr] at hn
    (repeat' (split at hn)) <;> cases hn
  case return_ =>
    dsimp only [nxd, rr] at hn
    (repeat' (split at hn)) <;> cases hn
  case lreturn =>
    dsimp only [nxd, rr] at hn
    (repeat' (split at hn)) <;> cases hn
  all_goals (dsimp only [nxd] at hn; cases hn)
end STEP
end
section
/-! calls, and a whole run: what the abstract machine answers the machine answers -/
def wsk (k : Nat) : List Cond := Cond.code (mY k) (mB k) (mL k) (mR k) :: gW
def rmv (d mc ms : Nat) : Room := { frames := d + 1, cells := mc, slots := ms, locals := 40 * d + 40 }
theorem goodk {k : Nat} (h : k < 109) : GoodIn gW (wsk k) := by
  intro w hw
  rcases List.mem_cons.mp hw with rfl | hw
  · exact ⟨xi_code h, good_of_word (gW_good (xi_code h))⟩
  · exact ⟨hw, good_of_word (gW_good hw)⟩
def PcX (dC : Nat → ClassId) (dI : Nat → Nat → Nat) (dA : Nat → ClassId) (B b Ls : Nat) (xs : Nat → Int32) (as : List AV) (A : AH) : Array Value → State → Prop := fun v U =>
  v = (as.map (cvv B b)).toArray ∧ HP dC dI dA B b Ls xs A U.heap ∧ KX dC dI dA U ∧ va_X b Ls xs U U.heap ∧ b < B
def QcX (dC : Nat → ClassId) (dI : Nat → Nat → Nat) (dA : Nat → ClassId) (B b Ls : Nat) (xs : Nat → Int32) (r : Option AV) (A : AH) : Array Value → State → Outcome → State → Prop := fun _ st oc t =>
  oc = .returned (r.map (cvv B b)) ∧ HP dC dI dA B b Ls xs A t.heap ∧ st.heap.size ≤ t.heap.size ∧ ∀ q, q < B → t.heap[q]? = st.heap[q]?
theorem PcX.blind (dC : Nat → ClassId) (dI : Nat → Nat → Nat) (dA : Nat → ClassId) (B b Ls : Nat) (xs : Nat → Int32) (as : List AV) (A : AH) : FrameBlind (PcX dC dI dA B b Ls xs as A) := by
  intro a U g mk h
  obtain ⟨h1, h2, h3, h4, h5⟩ := h
  exact ⟨h1, h2, h3.called g mk a, va_X.moved (u := U) (U := U.calling g mk a) (Vm.Alike.refl U.vm) h4, h5⟩
def fin (k : Nat) (i : Instr) (len : Nat) (v : Option AV) : Prop := (i = .ireturn ∧ len = 1 ∧ ∃ x, v = some (.inl x) ∧ okr k x = true) ∨ (i = .return_ ∧ len = 1 ∧ v = none ∧ mR k = none) ∨ (i = .lreturn ∧ len = 1 ∧ ∃ x, v = some (.inr (.inr x)) ∧ mR k = some .long)
section CALL
variable {dC : Nat → ClassId} {dI : Nat → Nat → Nat} {dA : Nat → ClassId} {B b Ls : Nat} {xs : Nat → Int32} {k : Nat}
variable {p : Program} {l : Launch} {e : Env} {R : Room} {s : State} {m : MethodId} {args : Array Value} {below : List Frame} {meth : Method} {c : Code} {Q : State → Prop}
variable {pc : Nat} {L st : List AV} {A : AH} {H : Heap} {locs : List Loc} {arr : Array Slot} {cells slots : Nat}
theorem run_go {w : Option AV} {A1 : AH} {mc ms : Nat} {st0 rest : List Value} {a : Array Value} (hr : va_Run p l e R s m args below meth c H locs cells slots mc ms (F0 m pc arr st0) rest (QcX dC dI dA B b Ls xs w A1 a) (fun q => B ≤ q)) (hF : fr B s H locs)
    (kk : ∀ H1 locs1, HP dC dI dA B b Ls xs A1 H1 → fr B s H1 locs1 → W p l e R s m args below meth c H1 locs1 (cells + mc) (slots + ms) Q (F0 m (pc + 3) arr ((w.map (cvv B b)).toList ++ rest))) : W p l e R s m args below meth c H locs cells slots Q (F0 m pc arr st0) := by
  intro T hT X
  obtain ⟨v, st₀, t, T', L1, h0, X', hL, e1, e2, ⟨hv, hP, hz, hk⟩, hgo⟩ := hr T hT X
  have hv2 : v = w.map (cvv B b) := Outcome.returned.inj hv
  subst hv2
  rw [h0] at hz hk
  obtain ⟨t2, a1, b1⟩ := kk T'.heap (locs ++ L1) (by rw [e1]; exact hP) ⟨by rw [e1]; exact Nat.le_trans hF.1 hz, hF.2.1, fun q hq => by rw [e1]; exact (hk q hq).trans (hF.2.2.1 q hq), fun q hq => by
      rcases List.mem_append.mp hq with h | h
      · exact hF.2.2.2 q h
      · exact hL q h⟩ T' rfl X'
  exact ⟨t2, hgo t2 a1, b1⟩
theorem cx_pc (cx : Cx dC dI dA B b Ls xs k p s m args meth c) (hH : HP dC dI dA B b Ls xs A H) (hF : fr B s H locs) (as : List AV) : ∀ U : State, U.heap = H → s.WarmedH U.vm → PcX dC dI dA B b Ls xs as A (as.map (cvv B b)).toArray U := by
  obtain ⟨hx, hb, hr, hml, hown, hlocks, hnm, hts, hK, hX, hbB⟩ := cx
  intro U hU hW
  refine ⟨rfl, by rw [hU]; exact hH, hK.moved hW, ?_, hbB⟩
  exact (hX.kept (by rw [hU]; exact hF.2.2.1 b hbB)).moved hW.alike
theorem restCat {rest : List AV} (h : rest.length ≤ 4) : ((rest.map (cvv B b)).map (fun v => v.category)).sum ≤ 8 := Nat.le_trans (cat_sum B b rest) (by omega)
theorem nx_call {i : Instr} {c1 : Nat} {as rest : List AV} (h : nxd k pc i L st A = some (.inr (.inr (c1, as, rest)))) :
    rest.length ≤ 4 ∧ ((∃ x pl, i = .invokestatic x ∧ (xI.lookup (mO k, x) = some (0, c1, pl) ∨ xI.lookup (mO k, x) = some (1, c1, pl)) ∧ as.length = mP c1 ∧ st = as.reverse ++ rest) ∨
      (∃ x pl bb as0, i = .invokevirtual x ∧ xI.lookup (mO k, x) = some (2, c1, pl) ∧ as = .inr (.inl (some bb)) :: as0 ∧ st = as0.reverse ++ .inr (.inl (some bb)) :: rest ∧ (A.2.1 bb).1 = mO c1 ∧ as0.length = mP c1) ∨
      (∃ x pl bb, i = .invokespecial x ∧ (xI.lookup (mO k, x) = some (3, c1, pl) ∨ xI.lookup (mO k, x) = some (4, c1, pl)) ∧ as = [.inr (.inl (some bb))] ∧ st = .inr (.inl (some bb)) :: rest)) := by
  cases i
  case invokestatic x =>
    dsimp only [nxd, ivS, rc] at h
    split at h
    next cc pl hlk =>
      split at h
      next ht =>
        cases h
        refine ⟨by rw [List.length_drop]; omega, Or.inl ⟨x, pl, rfl, Or.inl hlk, by rw [List.length_reverse, List.length_take]; omega, by rw [List.reverse_reverse, List.take_append_drop]⟩⟩
      next => cases h
    next cc pl hlk =>
      split at h
      next ht =>
        cases h
        refine ⟨by rw [List.length_drop]; omega, Or.inl ⟨x, pl, rfl, Or.inr hlk, by rw [List.length_reverse, List.length_take]; omega, by rw [List.reverse_reverse, List.take_append_drop]⟩⟩
      next => cases h
    · dsimp only [cpy, rg] at h
      (repeat' (split at h)) <;> cases h
    · cases h
  case invokevirtual x =>
    dsimp only [nxd, ivV, rc] at h
    split at h
    next cc pl hlk =>
      split at h
      next bb rs hst =>
        split at h
        next ht =>
          cases h
          have hle : mP c1 ≤ st.length := by
            rcases Nat.lt_or_ge st.length (mP c1) with q | q
            · rw [List.drop_of_length_le (by omega)] at hst; cases hst
            · exact q
          refine ⟨ht.2, Or.inr (Or.inl ⟨x, pl, bb, _, rfl, hlk, rfl, ?_, ht.1, by rw [List.length_reverse, List.length_take]; omega⟩)⟩
          rw [List.reverse_reverse, ← hst, List.take_append_drop]
        next => cases h
      next => cases h
    · cases h
  case invokespecial x =>
    dsimp only [nxd, ivI, rc] at h
    split at h
    next cc pl hlk =>
      split at h
      next bb rs =>
        split at h
        next ht => cases h; exact ⟨ht, Or.inr (Or.inr ⟨x, pl, bb, rfl, Or.inl hlk, rfl, rfl⟩)⟩
        next => cases h
      next => cases h
    next cc pl hlk =>
      split at h
      next bb rs =>
        split at h
        next ht => cases h; exact ⟨ht, Or.inr (Or.inr ⟨x, pl, bb, rfl, Or.inr hlk, rfl, rfl⟩)⟩
        next => cases h
      next => cases h
    · dsimp only [rg] at h
      (repeat' (split at h)) <;> cases h
    · cases h
  case newarray t =>
    exfalso
    cases t <;> dsimp only [nxd, newP, rg] at h <;> first | (cases h; done) | (repeat' (split at h)) <;> cases h
  all_goals exfalso
  all_goals dsimp only [nxd] at h
  all_goals first | (cases h; done) | skip
  all_goals dsimp only [rg, rr, rc, jmp, brf, b2, ldI, ldR, stI, stR, ldL, stL, gtf, ptf, alen, ald, ast, aldR, astR, newO, newP, newQ, ivS, ivV, ivI, cpy, tsw] at h
  all_goals (repeat' (split at h)) <;> cases h
/-- a call: the callee's contract, and how it goes on -/
theorem callW (cx : Cx dC dI dA B b Ls xs k p s m args meth c) (hH : HP dC dI dA B b Ls xs A H) (hF : fr B s H locs) (hL : lrel B b (lgm k) (mL k) L arr) {i : Instr} {len c1 d : Nat} {as rest : List AV} {w : Option AV} {A1 : AH} (hd : decode (mB k) pc = .ok (i, len)) (hl : ilok i len = true) (hn : nxd k pc i L st A = some (.inr (.inr (c1, as, rest))))
    (hM : c1 < 109 → c1 ≠ 1 → Met l (mY c1) (wsk c1) (rmv d (A1.1.1 - A.1.1) (A1.1.2 - A.1.2)) (PcX dC dI dA B b Ls xs as A) (QcX dC dI dA B b Ls xs w A1) (A1.1.1 - A.1.1) (A1.1.2 - A.1.2) (fun q => B ≤ q))
    (hR : d + 1 + 1 ≤ R.frames ∧ 40 * (d + 1) + 40 ≤ R.locals) (hcel : cells + (A1.1.1 - A.1.1) ≤ R.cells) (hslo : slots + (A1.1.2 - A.1.2) ≤ R.slots)
    (kk : ∀ H1 locs1, HP dC dI dA B b Ls xs A1 H1 → fr B s H1 locs1 → W p l e R s m args below meth c H1 locs1 (cells + (A1.1.1 - A.1.1)) (slots + (A1.1.2 - A.1.2)) Q (F0 m (pc + 3) arr ((w.toList ++ rest).map (cvv B b)))) :
    W p l e R s m args below meth c H locs cells slots Q (F0 m pc arr (st.map (cvv B b))) := by
  have hpc := cx_pc cx hH hF as
  have hx := cx.1
  have hb := cx.2.1
  have hml := cx.2.2.2.1
  have hown := cx.2.2.2.2.1
  have hts := cx.2.2.2.2.2.2.2.1
  have hK := cx.2.2.2.2.2.2.2.2.1
  have S : CallFix p m c (mB k) (mL k) s args gW (xC (mO k)) := ⟨hx, hb, hml, hown, hts⟩
  have kk2 : ∀ H1 locs1, HP dC dI dA B b Ls xs A1 H1 → fr B s H1 locs1 → W p l e R s m args below meth c H1 locs1 (cells + (A1.1.1 - A.1.1)) (slots + (A1.1.2 - A.1.2)) Q (F0 m (pc + 3) arr ((w.map (cvv B b)).toList ++ rest.map (cvv B b))) := by
    intro H1 locs1 a1 a2
    have := kk H1 locs1 a1 a2
    rw [List.map_append] at this
    have e0 : w.toList.map (cvv B b) = (w.map (cvv B b)).toList := by cases w <;> rfl
    rw [e0] at this
    exact this
  obtain ⟨hrest, ⟨x, pl, rfl, hlk, hal, rfl⟩ | ⟨x, pl, bb, as0, rfl, hlk, rfl, rfl, htag, hal⟩ | ⟨x, pl, bb, rfl, hlk, rfl, rfl⟩⟩ := nx_call hn
  · have := il_1 hl (by intros; simp); subst this
    have hst : (as.reverse ++ rest).map (cvv B b) = (as.map (cvv B b)).reverse ++ rest.map (cvv B b) := by rw [List.map_append, List.map_reverse]
    have hlen : (as.map (cvv B b)).length = mP c1 := by rw [List.length_map]; exact hal
    rcases hlk with hlk | hlk
    · obtain ⟨g1, g2, g3, g4⟩ := xI_0 hlk
      obtain ⟨o1, o2, o3, o4, o5⟩ := mok g3 g4
      have hrun := va_runS (e := e) (below := below) (meth := meth) (locs := locs) (As := as.map (cvv B b)) (rest := rest.map (cvv B b)) (g := F0 m pc arr ((as.reverse ++ rest).map (cvv B b))) S (hM g3 g4) ⟨callB_of (own := xC (mO k)) (index := x) (bytes := mB c1) (maxL := mL c1) (ret := mR c1) (mP c1) hts (goodk g3) rfl rfl rfl (hts _ o1) (hts _ g1) o2 ⟨hR.1, by show 8 + (mL c1 + 11) + (40 * d + 40) ≤ _; omega⟩, hts _ g2⟩ ⟨PcX.blind dC dI dA B b Ls xs as A, hpc⟩ rfl hlen hL.1.1 hst (lv_room (restCat hrest)) hd ⟨hcel, hslo⟩
      exact run_go hrun hF kk2
    · obtain ⟨g1, g2, g3, g4⟩ := xI_1 hlk
      obtain ⟨o1, o2, o3, o4, o5⟩ := mok g3 g4
      have hrun := va_runSN (e := e) (below := below) (meth := meth) (locs := locs) (As := as.map (cvv B b)) (rest := rest.map (cvv B b)) (g := F0 m pc arr ((as.reverse ++ rest).map (cvv B b))) S (hM g3 g4) ⟨va_cnB (own := xC (mO k)) (host := "BusRack") (index := x) (bytes := mB c1) (maxL := mL c1) (ret := mR c1) (mP c1) hts (goodk g3) rfl rfl rfl (hK.2.2.2.2 _ _ _ g1) (hts _ o1) o2 ⟨hR.1, by show 8 + (mL c1 + 11) + (40 * d + 40) ≤ _; omega⟩, hts _ g2, trivial⟩ ⟨PcX.blind dC dI dA B b Ls xs as A, hpc⟩ rfl hlen hL.1.1 hst (lv_room (restCat hrest)) hd ⟨hcel, hslo⟩
      exact run_go hrun hF kk2
  · have := il_1 hl (by intros; simp); subst this
    obtain ⟨g1, g2, g3, g4, g5, g6⟩ := xI_2 hlk
    obtain ⟨o1, o2, o3, o4, o5⟩ := mok g4 g5
    have hbn := hH.2.2.1 bb (by omega)
    have hbS : bb ≠ SC := by have := hH.2.1; omega
    have hst : (as0.reverse ++ .inr (.inl (some bb)) :: rest).map (cvv B b) = (as0.map (cvv B b)).reverse ++ Value.ref (B + bb) :: rest.map (cvv B b) := by
      rw [List.map_append, List.map_reverse, List.map_cons]
      show _ ++ Value.ref (if bb = SC then b else B + bb) :: _ = _
      rw [if_neg hbS]
    have hev : ((.inr (.inl (some bb)) :: as0 : List AV).map (cvv B b)) = Value.ref (B + bb) :: as0.map (cvv B b) := by
      rw [List.map_cons]
      show Value.ref (if bb = SC then b else B + bb) :: _ = _
      rw [if_neg hbS]
    have hlen : (as0.map (cvv B b)).length = mP c1 := by rw [List.length_map]; exact hal
    obtain ⟨q0, -, -⟩ := hH.2.2.2.1 bb hbn
    rw [htag] at q0
    obtain ⟨cell, q1, q2, q3, -⟩ := q0 g6
    have hcls := (hK.1 (mO c1) g6).2.1
    rw [hev] at hpc
    have hrun := va_runV (e := e) (below := below) (meth := meth) (locs := locs) (C := (mY c1).cls) (b := B + bb) (As := as0.map (cvv B b)) (rest := rest.map (cvv B b)) (g := F0 m pc arr ((as0.reverse ++ .inr (.inl (some bb)) :: rest).map (cvv B b))) S (hM g4 g5) ⟨callB_of (own := xC (mO k)) (index := x) (bytes := mB c1) (maxL := mL c1) (ret := mR c1) (mP c1) hts (goodk g4) rfl rfl rfl (hts _ o1) (hts _ g1) o2 ⟨hR.1, by show 8 + (mL c1 + 11) + (40 * d + 40) ≤ _; omega⟩, hts _ g2, hts _ g3⟩
      ⟨PcX.blind dC dI dA B b Ls xs _ A, ⟨cell, q1, by rw [q3]; rfl, by rw [← o5, q2]; exact hcls⟩, hpc⟩ rfl hlen hL.1.1 hst (lv_room (restCat hrest)) hd ⟨hcel, hslo⟩
    exact run_go hrun hF kk2
  · have := il_1 hl (by intros; simp); subst this
    have hbb : cvv B b (.inr (.inl (some bb))) = Value.ref (if bb = SC then b else B + bb) := rfl
    rcases hlk with hlk | hlk
    · obtain ⟨g1, g2, g3, gr, gp, g4, g5⟩ := xI_3 hlk
      obtain ⟨o1, o2, o3, o4, o5⟩ := mok g4 g5
      have hrun := va_runI (e := e) (below := below) (meth := meth) (locs := locs) (b := if bb = SC then b else B + bb) (As := []) (rest := rest.map (cvv B b)) (g := F0 m pc arr ((.inr (.inl (some bb)) :: rest : List AV).map (cvv B b))) S (hM g4 g5) ⟨callB_of (own := xC (mO k)) (index := x) (bytes := mB c1) (maxL := mL c1) (ret := none) (mP c1) hts (goodk g4) (by unfold wsk; rw [gr]) rfl rfl (hts _ o1) (hts _ g1) o2 ⟨hR.1, by show 8 + (mL c1 + 11) + (40 * d + 40) ≤ _; omega⟩, g3, hts _ g2⟩ ⟨PcX.blind dC dI dA B b Ls xs _ A, hpc⟩ rfl (by rw [gp]; rfl) hL.1.1 rfl (lv_room (restCat hrest)) hd ⟨hcel, hslo⟩
      exact run_go hrun hF kk2
    · obtain ⟨g1, g2, g3, gr, gp, g4, g5⟩ := xI_4 hlk
      obtain ⟨o1, o2, o3, o4, o5⟩ := mok g4 g5
      have hrun := va_runIN (e := e) (below := below) (meth := meth) (locs := locs) (b := if bb = SC then b else B + bb) (As := []) (rest := rest.map (cvv B b)) (g := F0 m pc arr ((.inr (.inl (some bb)) :: rest : List AV).map (cvv B b))) S (hM g4 g5) ⟨va_cnB (own := xC (mO k)) (host := "BusRack") (index := x) (bytes := mB c1) (maxL := mL c1) (ret := none) (mP c1) hts (goodk g4) (by unfold wsk; rw [gr]) rfl rfl (hK.2.2.2.2 _ _ _ g1) (hts _ o1) o2 ⟨hR.1, by show 8 + (mL c1 + 11) + (40 * d + 40) ≤ _; omega⟩, g3, hts _ g2⟩ ⟨PcX.blind dC dI dA B b Ls xs _ A, hpc⟩ rfl (by rw [gp]; rfl) hL.1.1 rfl (lv_room (restCat hrest)) hd ⟨hcel, hslo⟩
      exact run_go hrun hF kk2
end CALL
/-- a run of the abstract machine is a run of the machine -/
theorem snd (l : Launch) {dC : Nat → ClassId} {dI : Nat → Nat → Nat} {dA : Nat → ClassId} {B b Ls : Nat} {xs : Nat → Int32} : ∀ (n d k pc : Nat) (L st : List AV) (A : AH) (v : Option AV) (A' : AH), zrun n d k pc L st A = some (v, A') →
    ∀ {p : Program} {e : Env} {R : Room} {s : State} {m : MethodId} {args : Array Value} {below : List Frame} {meth : Method} {c : Code} {Q : State → Prop} {H : Heap} {locs : List Loc} {arr : Array Slot} {cells slots C' S' : Nat},
    Cx dC dI dA B b Ls xs k p s m args meth c → HP dC dI dA B b Ls xs A H → fr B s H locs → lrel B b (lgm k) (mL k) L arr → d + 1 ≤ R.frames ∧ 40 * d + 40 ≤ R.locals → C' ≤ R.cells → S' ≤ R.slots → cells + A'.1.1 = C' + A.1.1 → slots + A'.1.2 = S' + A.1.2 →
    (∀ (i : Instr) (len pcR : Nat) (HR : Heap) (locsR : List Loc) (arrR : Array Slot), decode (mB k) pcR = .ok (i, len) → fin k i len v → HP dC dI dA B b Ls xs A' HR → fr B s HR locsR → W p l e R s m args below meth c HR locsR C' S' Q (F0 m pcR arrR (v.toList.map (cvv B b)))) →
    W p l e R s m args below meth c H locs cells slots Q (F0 m pc arr (st.map (cvv B b))) := by
  intro n
  induction n with
  | zero => intro d k pc L st A v A' h; simp [zrun] at h
  | succ n ih =>
    intro d k pc L st A v A' h p e R s m args below meth c Q H locs arr cells slots C' S' cx hH hF hL hR hC hS hc0 hs0 hend
    rw [zrun] at h
    cases hd : decode (mB k) pc with
    | error e => rw [hd] at h; simp at h
    | ok q =>
      obtain ⟨i, len⟩ := q
      rw [hd] at h
      dsimp only at h
      split at h
      next hl =>
        cases hn : nxd k pc i L st A with
        | none => rw [hn] at h; simp at h
        | some x =>
          rw [hn] at h
          rcases x with ⟨pc1, L1, st1, A1⟩ | ⟨w, A1⟩ | ⟨c1, as, rest⟩
          · dsimp only at h
            split at h
            next hA =>
              have hz := zrun_sz _ _ _ _ _ _ _ _ _ h
              refine stepW cx hd hl hn hH hF hL ⟨by omega, by omega⟩ (by omega) (by omega) fun H1 locs1 arr1 a1 a2 a3 => ?_
              exact ih _ _ _ _ _ _ _ _ h cx a1 a2 a3 hR hC hS (by omega) (by omega) hend
            next => simp at h
          · dsimp only at h
            cases h
            obtain ⟨rfl, hq⟩ := nx_ret hn
            have e1 : cells = C' := by omega
            have e2 : slots = S' := by omega
            subst e1; subst e2
            rcases hq with ⟨rfl, x, rfl, rfl, hok⟩ | ⟨rfl, rfl, rfl, hok⟩ | ⟨rfl, x, rfl, rfl, hok⟩
            · exact hend _ _ pc H locs arr hd (Or.inl ⟨rfl, il_1 hl (by intros; simp), x, rfl, hok⟩) hH hF
            · exact hend _ _ pc H locs arr hd (Or.inr (Or.inl ⟨rfl, il_1 hl (by intros; simp), rfl, hok⟩)) hH hF
            · exact hend _ _ pc H locs arr hd (Or.inr (Or.inr ⟨rfl, il_1 hl (by intros; simp), x, rfl, hok⟩)) hH hF
          · cases d with
            | zero => simp at h
            | succ d =>
              dsimp only at h
              split at h
              next ha =>
                cases hcl : zrun n d c1 0 (ent c1 as) [] A with
                | none => rw [hcl] at h; simp at h
                | some y =>
                  obtain ⟨w, A1⟩ := y
                  rw [hcl] at h
                  dsimp only at h
                  have hz1 := zrun_sz _ _ _ _ _ _ _ _ _ hcl
                  have hz2 := zrun_sz _ _ _ _ _ _ _ _ _ h
                  refine callW cx hH hF hL hd hl hn (d := d) (w := w) (A1 := A1) ?_ ⟨by omega, by omega⟩ (by omega) (by omega) fun H1 locs1 a1 a2 => ?_
                  · intro hc192 hc1
                    obtain ⟨o1, o2, o3, o4, o5⟩ := mok hc192 hc1
                    refine va_MetF (cc := mB c1) (maxL := mL c1) (ret := mR c1) o4 rfl ?_
                    intro p e s m args below meth c s₁ Bd hml hv
                    obtain ⟨rfl, vH, vK, vX, vb⟩ := hv
                    have hts := atoms_spec (ws := wsk c1) Bd.pre
                    have cx2 : Cx dC dI dA B b Ls xs c1 p s m ((as.map (cvv B b)).toArray) meth c := ⟨Bd.exec, Bd.bytes, Bd.returns, hml, by rw [o5]; exact findClass_of_methodNamed Bd.named, Bd.notSynchronized, fun h => (name_of_methodNamed Bd.named Bd.method).1.trans h, fun w hw => hts w (List.mem_cons_of_mem _ hw), vK, vX, vb⟩
                    rw [lg_entry_eq]
                    refine ih d c1 0 (ent c1 as) [] A w A1 hcl (R := rmv d (A1.1.1 - A.1.1) (A1.1.2 - A.1.2)) (C' := A1.1.1 - A.1.1) (S' := A1.1.2 - A.1.2) cx2 vH ⟨Nat.le_refl _, by rw [vH.1]; omega, fun _ _ => rfl, fun _ h => by cases h⟩ (lrel.entry ha.1 ha.2) ⟨Nat.le_refl _, Nat.le_refl _⟩ (Nat.le_refl _) (Nat.le_refl _) (by omega) (by omega) ?_
                    intro i len pcR HR locsR arrR hdR hfin rH rF
                    rcases hfin with ⟨rfl, rfl, x, rfl, hok⟩ | ⟨rfl, rfl, rfl, hok⟩ | ⟨rfl, rfl, x, rfl, hok⟩
                    · unfold okr at hok
                      have hpost : ∀ t : State, t.heap = HR → s.WarmedH t.vm → QcX dC dI dA B b Ls xs (some (.inl x)) A1 ((as.map (cvv B b)).toArray) s (.returned (some (.int x))) t := fun t ht _ => ⟨rfl, by rw [ht]; exact rH, by rw [ht]; exact rF.1, fun q hq => by rw [ht]; exact rF.2.2.1 q hq⟩
                      split at hok
                      next hr2 => exact W.zret (ty := .int) Bd.exec Bd.bytes (Bd.returns.trans hr2) rfl hpost rF.2.2.2 hdR Bd.notSynchronized
                      next hr2 =>
                        simp only [Bool.or_eq_true, beq_iff_eq] at hok
                        exact W.zret (ty := .boolean) Bd.exec Bd.bytes (Bd.returns.trans hr2) (by rcases hok with rfl | rfl <;> rfl) hpost rF.2.2.2 hdR Bd.notSynchronized
                      next => cases hok
                    · exact W.vret Bd.exec Bd.bytes (Bd.returns.trans hok) (fun t ht _ => ⟨rfl, by rw [ht]; exact rH, by rw [ht]; exact rF.1, fun q hq => by rw [ht]; exact rF.2.2.1 q hq⟩) rF.2.2.2 hdR Bd.notSynchronized
                    · exact W.lret Bd.exec Bd.bytes (Bd.returns.trans hok) (fun t ht _ => ⟨rfl, by rw [ht]; exact rH, by rw [ht]; exact rF.1, fun q hq => by rw [ht]; exact rF.2.2.1 q hq⟩) rF.2.2.2 hdR Bd.notSynchronized
                  · exact ih _ _ _ _ _ _ _ _ h cx a1 a2 hL hR hC hS (by omega) (by omega) hend
              next => simp at h
      next => simp at h
end
