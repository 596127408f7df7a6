/-! the classes, their fields, the methods: by program out of the tables -/
def am_T0 : u_T := fun k => match k with
  | 0 => ("ThirdSheets$Groups", "parent", "[I", true)
  | 1 => ("ThirdSheets$Groups", "unlikeParent", "[I", true)
  | 2 => ("ThirdSheets$Groups", "clash", "[Z", true)
  | 3 => ("ThirdSheets$Groups", "groupOf", "[I", true)
  | 4 => ("ThirdSheets$Groups", "first", "[I", true)
  | 5 => ("ThirdSheets$Groups", "members", "I", false)
  | _ => ("ThirdSheets$Groups", "groups", "I", false)
def am_T1 : u_T := fun k => match k with
  | 0 => ("ThirdSheets$LeastSheets", "width", "I", false)
  | 1 => ("ThirdSheets$LeastSheets", "rows", "I", false)
  | 2 => ("ThirdSheets$LeastSheets", "row", "[[I", false)
  | 3 => ("ThirdSheets$LeastSheets", "support", "[I", false)
  | 4 => ("ThirdSheets$LeastSheets", "excess", "[I", true)
  | 5 => ("ThirdSheets$LeastSheets", "nextRows", "I", false)
  | 6 => ("ThirdSheets$LeastSheets", "nextRow", "[[I", false)
  | _ => ("ThirdSheets$LeastSheets", "nextSupport", "[I", false)
def am_T2 : u_T := fun k => match k with
  | 0 => ("ThirdSheets$Loops", "loop", "[[J", true)
  | 1 => ("ThirdSheets$Loops", "pairOf", "[I", true)
  | 2 => ("ThirdSheets$Loops", "loops", "I", false)
  | 3 => ("ThirdSheets$Loops", "columns", "I", false)
  | _ => ("ThirdSheets$Loops", "rank", "I", false)
def am_T3 : u_T := fun k => match k with
  | 0 => ("ThirdSheets$Parts", "cuts", "LThirdSheets$Groups;", true)
  | 1 => ("ThirdSheets$Parts", "firstCut", "[I", true)
  | 2 => ("ThirdSheets$Parts", "sizeOf", "[I", true)
  | _ => ("ThirdSheets$Parts", "eulerOf", "[I", true)
def am_T4 : u_T := fun k => match k with
  | _ => ("ThirdSheets$Sheet", "row", "[I", true)
def am_T5 : u_T := fun k => match k with
  | 0 => ("ThirdSheets$Space", "pieces", "I", false)
  | 1 => ("ThirdSheets$Space", "pairs", "I", false)
  | 2 => ("ThirdSheets$Space", "mate", "[I", true)
  | 3 => ("ThirdSheets$Space", "goesTo", "[I", true)
  | 4 => ("ThirdSheets$Space", "corners", "LThirdSheets$Groups;", true)
  | 5 => ("ThirdSheets$Space", "edges", "LThirdSheets$Groups;", true)
  | _ => ("ThirdSheets$Space", "sets", "LThirdSheets$Groups;", true)
def am_T6 : u_T := fun k => match k with
  | 0 => ("ThirdSheets", "space", "LThirdSheets$Space;", true)
  | 1 => ("ThirdSheets", "loops", "LThirdSheets$Loops;", true)
  | 2 => ("ThirdSheets", "leastSheets", "LThirdSheets$LeastSheets;", true)
  | 3 => ("ThirdSheets", "sheet", "LThirdSheets$Sheet;", true)
  | 4 => ("ThirdSheets", "sheetParts", "LThirdSheets$Parts;", true)
  | 5 => ("ThirdSheets", "leastStale", "Z", false)
  | _ => ("ThirdSheets", "partsStale", "Z", false)
def am_T7 : u_T := fun k => match k with
  | 0 => ("ThirdSheetsModel", "pieces", "I", false)
  | 1 => ("ThirdSheetsModel", "glued", "[I", true)
  | 2 => ("ThirdSheetsModel", "goes", "[I", true)
  | 3 => ("ThirdSheetsModel", "sheet", "[I", true)
  | 4 => ("ThirdSheetsModel", "from", "[I", true)
  | 5 => ("ThirdSheetsModel", "to", "[I", true)
  | 6 => ("ThirdSheetsModel", "labels", "[I", true)
  | 7 => ("ThirdSheetsModel", "corners", "[I", true)
  | 8 => ("ThirdSheetsModel", "sets", "[I", true)
  | 9 => ("ThirdSheetsModel", "more", "Z", false)
  | 10 => ("ThirdSheetsModel", "table", "[J", true)
  | 11 => ("ThirdSheetsModel", "rows", "I", false)
  | 12 => ("ThirdSheetsModel", "columns", "I", false)
  | 13 => ("ThirdSheetsModel", "pairOf", "[I", true)
  | 14 => ("ThirdSheetsModel", "rays", "I", false)
  | 15 => ("ThirdSheetsModel", "ray", "[I", true)
  | 16 => ("ThirdSheetsModel", "next", "[I", true)
  | 17 => ("ThirdSheetsModel", "equation", "[I", true)
  | 18 => ("ThirdSheetsModel", "laid", "I", false)
  | 19 => ("ThirdSheetsModel", "cuts", "I", false)
  | 20 => ("ThirdSheetsModel", "cutFrom", "[I", true)
  | 21 => ("ThirdSheetsModel", "partOf", "[I", true)
  | 22 => ("ThirdSheetsModel", "sign", "[I", true)
  | 23 => ("ThirdSheetsModel", "queue", "[I", true)
  | 24 => ("ThirdSheetsModel", "isTwisted", "Z", false)
  | _ => ("ThirdSheetsModel", "twisted", "[Z", true)
abbrev am_cl : List vw_C := [("ThirdSheets$Groups", am_T0, 7), ("ThirdSheets$LeastSheets", am_T1, 8), ("ThirdSheets$Loops", am_T2, 5), ("ThirdSheets$Parts", am_T3, 4), ("ThirdSheets$Sheet", am_T4, 1), ("ThirdSheets$Space", am_T5, 7), ("ThirdSheets", am_T6, 7), ("ThirdSheetsModel", am_T7, 26)]
def am_cn : Nat → String := fun k => (["ThirdSheets$Groups", "ThirdSheets$LeastSheets", "ThirdSheets$Loops", "ThirdSheets$Parts", "ThirdSheets$Sheet", "ThirdSheets$Space", "ThirdSheets", "ThirdSheetsModel", "ThirdSheetsLaw", "java/util/Arrays"] : List String).getD k ""
/-- name, code, locals, answer, frames, words, class, arguments -/
abbrev am_M : Type := MethodName × ByteArray × Nat × Option FieldType × Nat × Nat × Nat × Nat
def am_mt0 : List am_M := [(⟨"ThirdSheets$Groups", "<init>", "(I)V"⟩, prog_2_method_1_code, 2, none, 1, 20, 0, 1),
  (⟨"ThirdSheets$Groups", "start", "(I)V"⟩, prog_2_method_2_code, 3, none, 1, 21, 0, 1),
  (⟨"ThirdSheets$Groups", "rootOf", "(I)I"⟩, prog_2_method_3_code, 5, (some .int), 0, 0, 0, 1),
  (⟨"ThirdSheets$Groups", "join", "(IIZ)V"⟩, prog_2_method_4_code, 9, none, 1, 24, 0, 3),
  (⟨"ThirdSheets$Groups", "settle", "()V"⟩, prog_2_method_5_code, 3, none, 1, 24, 0, 0),
  (⟨"ThirdSheets$Groups", "clashes", "(I)Z"⟩, prog_2_method_6_code, 2, (some .boolean), 0, 0, 0, 1),
  (⟨"ThirdSheets$Groups", "anyClashes", "()Z"⟩, prog_2_method_7_code, 2, (some .boolean), 1, 21, 0, 0),
  (⟨"ThirdSheets$LeastSheets", "<init>", "()V"⟩, prog_3_method_1_code, 1, none, 1, 20, 1, 0),
  (⟨"ThirdSheets$LeastSheets", "build", "(LThirdSheets$Space;)V"⟩, prog_3_method_2_code, 4, none, 3, 72, 1, 1),
  (⟨"ThirdSheets$LeastSheets", "startWithSingleCuts", "(I)V"⟩, prog_3_method_3_code, 3, none, 1, 23, 1, 1),
  (⟨"ThirdSheets$LeastSheets", "weigh", "(IIII)V"⟩, prog_3_method_4_code, 6, none, 1, 23, 1, 4),
  (⟨"ThirdSheets$LeastSheets", "fitAcross", "()V"⟩, prog_3_method_5_code, 3, none, 2, 50, 1, 0),
  (⟨"ThirdSheets$LeastSheets", "keep", "(I)V"⟩, prog_3_method_6_code, 2, none, 1, 26, 1, 1),
  (⟨"ThirdSheets$LeastSheets", "areNeighbours", "(II)Z"⟩, prog_3_method_7_code, 5, (some .boolean), 1, 22, 1, 2),
  (⟨"ThirdSheets$LeastSheets", "mixesFours", "(I)Z"⟩, prog_3_method_8_code, 3, (some .boolean), 0, 0, 1, 1),
  (⟨"ThirdSheets$LeastSheets", "mix", "(II)V"⟩, prog_3_method_9_code, 6, none, 1, 25, 1, 2),
  (⟨"ThirdSheets$LeastSheets", "commonDivisor", "(II)I"⟩, prog_3_method_10_code, 6, (some .int), 0, 0, 1, 2),
  (⟨"ThirdSheets$LeastSheets", "swapLists", "()V"⟩, prog_3_method_11_code, 3, none, 0, 0, 1, 0),
  (⟨"ThirdSheets$LeastSheets", "sortRows", "()V"⟩, prog_3_method_12_code, 4, none, 1, 23, 1, 0),
  (⟨"ThirdSheets$LeastSheets", "comesBefore", "([I[I)Z"⟩, prog_3_method_13_code, 4, (some .boolean), 0, 0, 1, 2),
  (⟨"ThirdSheets$Loops", "<init>", "()V"⟩, prog_4_method_1_code, 1, none, 1, 20, 2, 0),
  (⟨"ThirdSheets$Loops", "build", "(LThirdSheets$Space;)V"⟩, prog_4_method_2_code, 3, none, 3, 76, 2, 1),
  (⟨"ThirdSheets$Loops", "aboveOne", "(I)I"⟩, prog_4_method_3_code, 4, (some .int), 0, 0, 2, 1),
  (⟨"ThirdSheets$Loops", "numberPairs", "(LThirdSheets$Space;)V"⟩, prog_4_method_4_code, 3, none, 1, 21, 2, 1),
  (⟨"ThirdSheets$Loops", "goAround", "(LThirdSheets$Space;I)Z"⟩, prog_4_method_5_code, 13, (some .boolean), 1, 24, 2, 2),
  (⟨"ThirdSheets$Loops", "makeDiagonal", "(I)Z"⟩, prog_4_method_6_code, 3, (some .boolean), 2, 54, 2, 1),
  (⟨"ThirdSheets$Loops", "bringSmallest", "(I)Z"⟩, prog_4_method_7_code, 10, (some .boolean), 1, 25, 2, 1),
  (⟨"ThirdSheets$Loops", "swapRows", "(II)V"⟩, prog_4_method_8_code, 4, none, 0, 0, 2, 2),
  (⟨"ThirdSheets$Loops", "swapColumns", "(II)V"⟩, prog_4_method_9_code, 6, none, 0, 0, 2, 2),
  (⟨"ThirdSheets$Loops", "reduceRows", "(I)Z"⟩, prog_4_method_10_code, 7, (some .boolean), 1, 23, 2, 1)]
def am_mt1 : List am_M := [(⟨"ThirdSheets$Loops", "reduceColumns", "(I)Z"⟩, prog_4_method_11_code, 7, (some .boolean), 1, 23, 2, 1),
  (⟨"ThirdSheets$Loops", "timesOf", "(JJ)J"⟩, prog_4_method_12_code, 4, (some .long), 0, 0, 2, 2),
  (⟨"ThirdSheets$Loops", "dividesRest", "(I)Z"⟩, prog_4_method_13_code, 6, (some .boolean), 1, 23, 2, 1),
  (⟨"ThirdSheets$Loops", "addRow", "(II)V"⟩, prog_4_method_14_code, 4, none, 0, 0, 2, 2),
  (⟨"ThirdSheets$Parts", "<init>", "()V"⟩, prog_5_method_1_code, 1, none, 2, 41, 3, 0),
  (⟨"ThirdSheets$Parts", "build", "(LThirdSheets$Space;[I)V"⟩, prog_5_method_2_code, 5, none, 3, 81, 3, 2),
  (⟨"ThirdSheets$Parts", "numberCuts", "([I)I"⟩, prog_5_method_3_code, 4, (some .int), 1, 21, 3, 1),
  (⟨"ThirdSheets$Parts", "joinAcross", "(LThirdSheets$Space;[II)V"⟩, prog_5_method_4_code, 10, none, 2, 52, 3, 3),
  (⟨"ThirdSheets$Parts", "cutAt", "([IIII)I"⟩, prog_5_method_5_code, 9, (some .int), 1, 21, 3, 4),
  (⟨"ThirdSheets$Parts", "looksAway", "([IIII)Z"⟩, prog_5_method_6_code, 4, (some .boolean), 1, 21, 3, 4),
  (⟨"ThirdSheets$Parts", "isNear", "(II)Z"⟩, prog_5_method_7_code, 2, (some .boolean), 0, 0, 3, 2),
  (⟨"ThirdSheets$Parts", "countCuts", "(I)V"⟩, prog_5_method_8_code, 3, none, 0, 0, 3, 1),
  (⟨"ThirdSheets$Parts", "countArcs", "(LThirdSheets$Space;[I)V"⟩, prog_5_method_9_code, 8, none, 2, 49, 3, 2),
  (⟨"ThirdSheets$Parts", "countPoints", "(LThirdSheets$Space;[I)V"⟩, prog_5_method_10_code, 9, none, 1, 21, 3, 2),
  (⟨"ThirdSheets$Sheet", "<init>", "()V"⟩, prog_6_method_1_code, 1, none, 1, 20, 4, 0),
  (⟨"ThirdSheets$Sheet", "wipe", "()V"⟩, prog_6_method_2_code, 1, none, 1, 23, 4, 0),
  (⟨"ThirdSheets$Sheet", "notZero", "()I"⟩, prog_6_method_3_code, 6, (some .int), 0, 0, 4, 0),
  (⟨"ThirdSheets$Sheet", "cutCount", "()I"⟩, prog_6_method_4_code, 6, (some .int), 0, 0, 4, 0),
  (⟨"ThirdSheets$Sheet", "hasRoomFor", "([II)Z"⟩, prog_6_method_5_code, 4, (some .boolean), 0, 0, 4, 2),
  (⟨"ThirdSheets$Sheet", "raise", "([II)V"⟩, prog_6_method_6_code, 4, none, 0, 0, 4, 2),
  (⟨"ThirdSheets$Sheet", "isLegal", "(LThirdSheets$Space;)Z"⟩, prog_6_method_7_code, 2, (some .boolean), 3, 69, 4, 1),
  (⟨"ThirdSheets$Sheet", "fits", "(LThirdSheets$Space;)Z"⟩, prog_6_method_8_code, 3, (some .boolean), 2, 47, 4, 1),
  (⟨"ThirdSheets$Sheet", "fitsAt", "(LThirdSheets$Space;I)Z"⟩, prog_6_method_9_code, 5, (some .boolean), 1, 23, 4, 2),
  (⟨"ThirdSheets$Sheet", "mixesFours", "()Z"⟩, prog_6_method_10_code, 4, (some .boolean), 0, 0, 4, 0),
  (⟨"ThirdSheets$Sheet", "eulerNumber", "(LThirdSheets$Space;)I"⟩, prog_6_method_11_code, 2, (some .int), 2, 48, 4, 1),
  (⟨"ThirdSheets$Sheet", "points", "(LThirdSheets$Space;)I"⟩, prog_6_method_12_code, 6, (some .int), 1, 21, 4, 1),
  (⟨"ThirdSheets$Sheet", "arcs", "(LThirdSheets$Space;)I"⟩, prog_6_method_13_code, 6, (some .int), 1, 23, 4, 1),
  (⟨"ThirdSheets$Space", "<init>", "()V"⟩, prog_7_method_1_code, 1, none, 2, 41, 5, 0),
  (⟨"ThirdSheets$Space", "grow", "()V"⟩, prog_7_method_2_code, 1, none, 0, 0, 5, 0),
  (⟨"ThirdSheets$Space", "empty", "()V"⟩, prog_7_method_3_code, 1, none, 1, 23, 5, 0)]
def am_mt2 : List am_M := [(⟨"ThirdSheets$Space", "isGlued", "(I)Z"⟩, prog_7_method_4_code, 2, (some .boolean), 0, 0, 5, 1),
  (⟨"ThirdSheets$Space", "fasten", "(III)V"⟩, prog_7_method_5_code, 6, none, 1, 24, 5, 3),
  (⟨"ThirdSheets$Space", "tell", "(IIII)V"⟩, prog_7_method_6_code, 5, none, 0, 0, 5, 4),
  (⟨"ThirdSheets$Space", "loosen", "(I)V"⟩, prog_7_method_7_code, 3, none, 0, 0, 5, 1),
  (⟨"ThirdSheets$Space", "isLesser", "(I)Z"⟩, prog_7_method_8_code, 2, (some .boolean), 0, 0, 5, 1),
  (⟨"ThirdSheets$Space", "sortOut", "()V"⟩, prog_7_method_9_code, 2, none, 3, 78, 5, 0),
  (⟨"ThirdSheets$Space", "joinCorners", "(I)V"⟩, prog_7_method_10_code, 5, none, 2, 52, 5, 1),
  (⟨"ThirdSheets$Space", "joinEdges", "(I)V"⟩, prog_7_method_11_code, 7, none, 2, 52, 5, 1),
  (⟨"ThirdSheets$Space", "isEvenChange", "(I)Z"⟩, prog_7_method_12_code, 4, (some .boolean), 0, 0, 5, 1),
  (⟨"ThirdSheets$Space", "sideCount", "()I"⟩, prog_7_method_13_code, 1, (some .int), 0, 0, 5, 0),
  (⟨"ThirdSheets$Space", "openCount", "()I"⟩, prog_7_method_14_code, 1, (some .int), 0, 0, 5, 0),
  (⟨"ThirdSheets$Space", "eulerNumber", "()I"⟩, prog_7_method_15_code, 1, (some .int), 1, 20, 5, 0),
  (⟨"ThirdSheets$Space", "isEven", "()Z"⟩, prog_7_method_16_code, 1, (some .boolean), 2, 42, 5, 0),
  (⟨"ThirdSheets$Space", "isWhole", "()Z"⟩, prog_7_method_17_code, 2, (some .boolean), 3, 67, 5, 0),
  (⟨"ThirdSheets$Space", "linkOf", "(I)I"⟩, prog_7_method_18_code, 2, (some .int), 2, 46, 5, 1),
  (⟨"ThirdSheets$Space", "endsAt", "(I)I"⟩, prog_7_method_19_code, 6, (some .int), 1, 21, 5, 1),
  (⟨"ThirdSheets$Space", "sidesAt", "(I)I"⟩, prog_7_method_20_code, 6, (some .int), 1, 21, 5, 1),
  (⟨"ThirdSheets$Space", "cornersOf", "(I)I"⟩, prog_7_method_21_code, 4, (some .int), 0, 0, 5, 1),
  (⟨"ThirdSheets", "<init>", "()V"⟩, prog_1_method_1_code, 1, none, 3, 61, 6, 0),
  (⟨"ThirdSheets", "piece", "()I"⟩, prog_1_method_2_code, 1, (some .int), 5, 119, 6, 0),
  (⟨"ThirdSheets", "glue", "(IIIII)I"⟩, prog_1_method_3_code, 8, (some .int), 5, 119, 6, 5),
  (⟨"ThirdSheets", "open", "(II)I"⟩, prog_1_method_4_code, 4, (some .int), 5, 119, 6, 2),
  (⟨"ThirdSheets", "clear", "()I"⟩, prog_1_method_5_code, 2, (some .int), 5, 119, 6, 0),
  (⟨"ThirdSheets", "across", "(III)I"⟩, prog_1_method_6_code, 6, (some .int), 2, 43, 6, 3),
  (⟨"ThirdSheets", "classOf", "(III)I"⟩, prog_1_method_7_code, 4, (some .int), 1, 21, 6, 3),
  (⟨"ThirdSheets", "bent", "(I)I"⟩, prog_1_method_8_code, 2, (some .int), 1, 21, 6, 1),
  (⟨"ThirdSheets", "link", "(I)I"⟩, prog_1_method_9_code, 2, (some .int), 3, 67, 6, 1),
  (⟨"ThirdSheets", "count", "(I)I"⟩, prog_1_method_10_code, 2, (some .int), 4, 88, 6, 1),
  (⟨"ThirdSheets", "holes", "(I)I"⟩, prog_1_method_11_code, 2, (some .int), 4, 98, 6, 1),
  (⟨"ThirdSheets", "least", "()I"⟩, prog_1_method_12_code, 1, (some .int), 5, 115, 6, 0)]
def am_mt3 : List am_M := [(⟨"ThirdSheets", "number", "(II)I"⟩, prog_1_method_13_code, 3, (some .int), 5, 115, 6, 2),
  (⟨"ThirdSheets", "put", "(II)I"⟩, prog_1_method_14_code, 4, (some .int), 1, 21, 6, 2),
  (⟨"ThirdSheets", "add", "(II)I"⟩, prog_1_method_15_code, 3, (some .int), 5, 115, 6, 2),
  (⟨"ThirdSheets", "drop", "()I"⟩, prog_1_method_16_code, 2, (some .int), 2, 43, 6, 0),
  (⟨"ThirdSheets", "legal", "()I"⟩, prog_1_method_17_code, 1, (some .int), 3, 69, 6, 0),
  (⟨"ThirdSheets", "euler", "()I"⟩, prog_1_method_18_code, 1, (some .int), 4, 90, 6, 0),
  (⟨"ThirdSheets", "parts", "()I"⟩, prog_1_method_19_code, 1, (some .int), 5, 125, 6, 0),
  (⟨"ThirdSheets", "part", "(II)I"⟩, prog_1_method_20_code, 3, (some .int), 5, 125, 6, 2),
  (⟨"ThirdSheets", "hasPiece", "(I)Z"⟩, prog_1_method_21_code, 2, (some .boolean), 0, 0, 6, 1),
  (⟨"ThirdSheets", "hasSide", "(II)Z"⟩, prog_1_method_22_code, 3, (some .boolean), 1, 21, 6, 2),
  (⟨"ThirdSheets", "hasNumber", "(I)Z"⟩, prog_1_method_23_code, 2, (some .boolean), 0, 0, 6, 1),
  (⟨"ThirdSheets", "hasLeast", "(I)Z"⟩, prog_1_method_24_code, 2, (some .boolean), 0, 0, 6, 1),
  (⟨"ThirdSheets", "goesOnto", "(II)Z"⟩, prog_1_method_25_code, 3, (some .boolean), 0, 0, 6, 2),
  (⟨"ThirdSheets", "spaceChanged", "()V"⟩, prog_1_method_26_code, 1, none, 4, 99, 6, 0),
  (⟨"ThirdSheets", "freshenLeast", "()V"⟩, prog_1_method_27_code, 1, none, 4, 95, 6, 0),
  (⟨"ThirdSheets", "freshenParts", "()V"⟩, prog_1_method_28_code, 1, none, 4, 105, 6, 0),
  (⟨"ThirdSheets", "arcsAround", "([III)I"⟩, prog_1_method_29_code, 4, (some .int), 0, 0, 6, 3),
  (⟨"ThirdSheets", "meets", "(II)Z"⟩, prog_1_method_30_code, 2, (some .boolean), 0, 0, 6, 2),
  (⟨"ThirdSheetsModel", "<init>", "()V"⟩, prog_9_method_1_code, 1, none, 1, 20, 7, 0),
  (⟨"ThirdSheetsModel", "in", "(III)Z"⟩, prog_9_method_2_code, 3, (some .boolean), 0, 0, 7, 3),
  (⟨"ThirdSheetsModel", "isPiece", "(I)Z"⟩, prog_9_method_3_code, 2, (some .boolean), 1, 22, 7, 1),
  (⟨"ThirdSheetsModel", "isSide", "(II)Z"⟩, prog_9_method_4_code, 3, (some .boolean), 2, 43, 7, 2),
  (⟨"ThirdSheetsModel", "edgeOf", "(II)I"⟩, prog_9_method_5_code, 4, (some .int), 0, 0, 7, 2),
  (⟨"ThirdSheetsModel", "endOf", "(III)I"⟩, prog_9_method_6_code, 4, (some .int), 1, 23, 7, 3),
  (⟨"ThirdSheetsModel", "lesser", "(II)I"⟩, prog_9_method_7_code, 2, (some .int), 0, 0, 7, 2),
  (⟨"ThirdSheetsModel", "join", "([III)V"⟩, prog_9_method_8_code, 5, none, 1, 21, 7, 3),
  (⟨"ThirdSheetsModel", "label", "()V"⟩, prog_9_method_9_code, 2, none, 3, 71, 7, 0),
  (⟨"ThirdSheetsModel", "joinSide", "(I)V"⟩, prog_9_method_10_code, 6, none, 2, 46, 7, 1),
  (⟨"ThirdSheetsModel", "edgeLabel", "(II)I"⟩, prog_9_method_11_code, 3, (some .int), 1, 21, 7, 2),
  (⟨"ThirdSheetsModel", "isFirstEdge", "(I)Z"⟩, prog_9_method_12_code, 2, (some .boolean), 2, 43, 7, 1)]
def am_mt4 : List am_M := [(⟨"ThirdSheetsModel", "edgeClasses", "()I"⟩, prog_9_method_13_code, 3, (some .int), 3, 64, 7, 0),
  (⟨"ThirdSheetsModel", "cornerClasses", "()I"⟩, prog_9_method_14_code, 3, (some .int), 0, 0, 7, 0),
  (⟨"ThirdSheetsModel", "edgeOfClass", "(I)I"⟩, prog_9_method_15_code, 4, (some .int), 3, 64, 7, 1),
  (⟨"ThirdSheetsModel", "cornerOfClass", "(I)I"⟩, prog_9_method_16_code, 4, (some .int), 0, 0, 7, 1),
  (⟨"ThirdSheetsModel", "isBent", "(I)Z"⟩, prog_9_method_17_code, 2, (some .boolean), 0, 0, 7, 1),
  (⟨"ThirdSheetsModel", "anyBent", "()Z"⟩, prog_9_method_18_code, 3, (some .boolean), 1, 21, 7, 0),
  (⟨"ThirdSheetsModel", "piece", "()I"⟩, prog_9_method_19_code, 2, (some .int), 1, 21, 7, 0),
  (⟨"ThirdSheetsModel", "empty", "()V"⟩, prog_9_method_20_code, 2, none, 0, 0, 7, 0),
  (⟨"ThirdSheetsModel", "glue", "(IIIII)I"⟩, prog_9_method_21_code, 14, (some .int), 3, 65, 7, 5),
  (⟨"ThirdSheetsModel", "open", "(II)I"⟩, prog_9_method_22_code, 4, (some .int), 3, 65, 7, 2),
  (⟨"ThirdSheetsModel", "clear", "()I"⟩, prog_9_method_23_code, 2, (some .int), 1, 21, 7, 0),
  (⟨"ThirdSheetsModel", "across", "(III)I"⟩, prog_9_method_24_code, 5, (some .int), 3, 65, 7, 3),
  (⟨"ThirdSheetsModel", "classOf", "(III)I"⟩, prog_9_method_25_code, 6, (some .int), 4, 92, 7, 3),
  (⟨"ThirdSheetsModel", "bent", "(I)I"⟩, prog_9_method_26_code, 3, (some .int), 4, 92, 7, 1),
  (⟨"ThirdSheetsModel", "linkOf", "(I)I"⟩, prog_9_method_27_code, 10, (some .int), 2, 46, 7, 1),
  (⟨"ThirdSheetsModel", "link", "(I)I"⟩, prog_9_method_28_code, 3, (some .int), 4, 92, 7, 1),
  (⟨"ThirdSheetsModel", "sides", "(Z)I"⟩, prog_9_method_29_code, 4, (some .int), 0, 0, 7, 1),
  (⟨"ThirdSheetsModel", "isWhole", "()Z"⟩, prog_9_method_30_code, 3, (some .boolean), 3, 75, 7, 0),
  (⟨"ThirdSheetsModel", "isEvenChange", "(I)Z"⟩, prog_9_method_31_code, 5, (some .boolean), 0, 0, 7, 1),
  (⟨"ThirdSheetsModel", "isEven", "()Z"⟩, prog_9_method_32_code, 5, (some .boolean), 1, 24, 7, 0),
  (⟨"ThirdSheetsModel", "setMany", "()I"⟩, prog_9_method_33_code, 3, (some .int), 0, 0, 7, 0),
  (⟨"ThirdSheetsModel", "count", "(I)I"⟩, prog_9_method_34_code, 2, (some .int), 4, 97, 7, 1),
  (⟨"ThirdSheetsModel", "findPairs", "()V"⟩, prog_9_method_35_code, 2, none, 0, 0, 7, 0),
  (⟨"ThirdSheetsModel", "goAround", "(I)Z"⟩, prog_9_method_36_code, 14, (some .boolean), 0, 0, 7, 1),
  (⟨"ThirdSheetsModel", "layLoops", "()V"⟩, prog_9_method_37_code, 2, none, 3, 64, 7, 0),
  (⟨"ThirdSheetsModel", "cell", "(II)J"⟩, prog_9_method_38_code, 3, (some .long), 0, 0, 7, 2),
  (⟨"ThirdSheetsModel", "bring", "(I)Z"⟩, prog_9_method_39_code, 10, (some .boolean), 1, 22, 7, 1),
  (⟨"ThirdSheetsModel", "reduce", "(I)Z"⟩, prog_9_method_40_code, 7, (some .boolean), 1, 22, 7, 1),
  (⟨"ThirdSheetsModel", "holes", "(I)I"⟩, prog_9_method_41_code, 7, (some .int), 4, 92, 7, 1),
  (⟨"ThirdSheetsModel", "kindOf", "(II)I"⟩, prog_9_method_42_code, 3, (some .int), 0, 0, 7, 2)]
def am_mt5 : List am_M := [(⟨"ThirdSheetsModel", "layEquation", "(II)V"⟩, prog_9_method_43_code, 7, none, 1, 22, 7, 2),
  (⟨"ThirdSheetsModel", "side", "(I)I"⟩, prog_9_method_44_code, 4, (some .int), 0, 0, 7, 1),
  (⟨"ThirdSheetsModel", "supportOf", "(I)I"⟩, prog_9_method_45_code, 4, (some .int), 0, 0, 7, 1),
  (⟨"ThirdSheetsModel", "hasOneKind", "(I)Z"⟩, prog_9_method_46_code, 5, (some .boolean), 0, 0, 7, 1),
  (⟨"ThirdSheetsModel", "areBeside", "(III)Z"⟩, prog_9_method_47_code, 6, (some .boolean), 1, 23, 7, 3),
  (⟨"ThirdSheetsModel", "divisor", "(II)I"⟩, prog_9_method_48_code, 5, (some .int), 0, 0, 7, 2),
  (⟨"ThirdSheetsModel", "layRay", "(IIII)V"⟩, prog_9_method_49_code, 8, none, 1, 24, 7, 4),
  (⟨"ThirdSheetsModel", "meet", "()V"⟩, prog_9_method_50_code, 6, none, 2, 51, 7, 0),
  (⟨"ThirdSheetsModel", "isBefore", "(II)Z"⟩, prog_9_method_51_code, 4, (some .boolean), 0, 0, 7, 2),
  (⟨"ThirdSheetsModel", "swap", "(II)V"⟩, prog_9_method_52_code, 5, none, 0, 0, 7, 2),
  (⟨"ThirdSheetsModel", "findLeast", "()V"⟩, prog_9_method_53_code, 3, none, 3, 76, 7, 0),
  (⟨"ThirdSheetsModel", "least", "()I"⟩, prog_9_method_54_code, 1, (some .int), 4, 98, 7, 0),
  (⟨"ThirdSheetsModel", "number", "(II)I"⟩, prog_9_method_55_code, 3, (some .int), 4, 98, 7, 2),
  (⟨"ThirdSheetsModel", "put", "(II)I"⟩, prog_9_method_56_code, 4, (some .int), 1, 22, 7, 2),
  (⟨"ThirdSheetsModel", "add", "(II)I"⟩, prog_9_method_57_code, 4, (some .int), 4, 98, 7, 2),
  (⟨"ThirdSheetsModel", "drop", "()I"⟩, prog_9_method_58_code, 3, (some .int), 1, 21, 7, 0),
  (⟨"ThirdSheetsModel", "arcs", "(III)I"⟩, prog_9_method_59_code, 4, (some .int), 1, 22, 7, 3),
  (⟨"ThirdSheetsModel", "legal", "()I"⟩, prog_9_method_60_code, 3, (some .int), 2, 45, 7, 0),
  (⟨"ThirdSheetsModel", "meets", "(II)Z"⟩, prog_9_method_61_code, 3, (some .boolean), 1, 22, 7, 2),
  (⟨"ThirdSheetsModel", "euler", "()I"⟩, prog_9_method_62_code, 4, (some .int), 4, 92, 7, 0),
  (⟨"ThirdSheetsModel", "cutAt", "(III)I"⟩, prog_9_method_63_code, 9, (some .int), 1, 22, 7, 3),
  (⟨"ThirdSheetsModel", "looks", "(III)Z"⟩, prog_9_method_64_code, 4, (some .boolean), 0, 0, 7, 3),
  (⟨"ThirdSheetsModel", "sortOf", "(I)I"⟩, prog_9_method_65_code, 3, (some .int), 0, 0, 7, 1),
  (⟨"ThirdSheetsModel", "spread", "(II)I"⟩, prog_9_method_66_code, 11, (some .int), 2, 50, 7, 2),
  (⟨"ThirdSheetsModel", "findParts", "()I"⟩, prog_9_method_67_code, 5, (some .int), 4, 92, 7, 0),
  (⟨"ThirdSheetsModel", "parts", "()I"⟩, prog_9_method_68_code, 2, (some .int), 5, 116, 7, 0),
  (⟨"ThirdSheetsModel", "cutsOf", "(I)I"⟩, prog_9_method_69_code, 4, (some .int), 0, 0, 7, 1),
  (⟨"ThirdSheetsModel", "worth", "(I)I"⟩, prog_9_method_70_code, 7, (some .int), 3, 64, 7, 1),
  (⟨"ThirdSheetsModel", "part", "(II)I"⟩, prog_9_method_71_code, 6, (some .int), 5, 116, 7, 2),
  (⟨"java/util/Arrays", "fill", "([JJ)V"⟩, prog_12_method_101_code, 5, none, 0, 0, 9, 2)]
def am_mt6 : List am_M := [(⟨"java/util/Arrays", "fill", "([II)V"⟩, prog_12_method_103_code, 4, none, 0, 0, 9, 2),
  (⟨"ThirdSheetsLaw", "law", "([I)Z"⟩, code, 4, (some .boolean), 6, 147, 8, 1)]
def am_mt : List am_M := am_mt0 ++ am_mt1 ++ am_mt2 ++ am_mt3 ++ am_mt4 ++ am_mt5 ++ am_mt6
def am_m (k : Nat) : am_M := am_mt.getD k (⟨"", "", ""⟩, ⟨#[]⟩, 0, none, 0, 0, 0, 0)
def am_name (k : Nat) : MethodName := (am_m k).1
def am_code (k : Nat) : ByteArray := (am_m k).2.1
def am_maxL (k : Nat) : Nat := (am_m k).2.2.1
def am_ret (k : Nat) : Option FieldType := (am_m k).2.2.2.1
def am_fr (k : Nat) : Nat := (am_m k).2.2.2.2.1
def am_lo (k : Nat) : Nat := (am_m k).2.2.2.2.2.1
def am_mc (k : Nat) : Nat := (am_m k).2.2.2.2.2.2.1
def am_na (k : Nat) : Nat := (am_m k).2.2.2.2.2.2.2
def am_ftL : List ((Nat × Nat) × Nat × Nat) := [((0, 7), 0, 0), ((0, 13), 0, 1), ((0, 16), 0, 2), ((0, 20), 0, 3), ((0, 23), 0, 4), ((0, 32), 0, 5), ((0, 43), 0, 6), ((1, 13), 1, 2), ((1, 16), 1, 3), ((1, 20), 1, 4), ((1, 23), 1, 6), ((1, 26), 1, 7), ((1, 29), 5, 0), ((1, 43), 5, 2), ((1, 46), 5, 3), ((1, 59), 1, 0), ((1, 62), 1, 1), ((1, 75), 1, 5), ((2, 13), 2, 0), ((2, 16), 2, 1), ((2, 24), 2, 2), ((2, 28), 5, 5), ((2, 34), 0, 6), ((2, 39), 0, 4), ((2, 46), 2, 4), ((2, 49), 2, 3), ((2, 62), 5, 0), ((2, 68), 5, 2), ((2, 88), 5, 3), ((3, 14), 3, 0), ((3, 20), 3, 1), ((3, 24), 3, 2), ((3, 27), 3, 3), ((3, 37), 5, 0), ((3, 70), 5, 2), ((3, 73), 5, 3), ((3, 99), 0, 6), ((3, 102), 0, 3), ((3, 108), 5, 5), ((3, 111), 0, 4), ((4, 9), 4, 0), ((4, 31), 5, 0), ((4, 45), 5, 2), ((4, 48), 5, 3), ((4, 66), 5, 5), ((4, 70), 0, 6), ((4, 75), 0, 4), ((5, 9), 5, 2), ((5, 15), 5, 3), ((5, 23), 5, 4), ((5, 27), 5, 5), ((5, 30), 5, 6), ((5, 39), 5, 0), ((5, 43), 5, 1), ((5, 82), 0, 6), ((5, 109), 0, 4), ((5, 112), 0, 3), ((6, 10), 6, 0), ((6, 19), 6, 1), ((6, 26), 6, 2), ((6, 33), 6, 3), ((6, 40), 6, 4), ((6, 44), 6, 5), ((6, 48), 6, 6), ((6, 51), 5, 0), ((6, 86), 5, 2), ((6, 93), 5, 4), ((6, 97), 0, 3), ((6, 102), 5, 5), ((6, 105), 0, 6), ((6, 133), 5, 6), ((6, 143), 5, 1), ((6, 146), 2, 4), ((6, 155), 1, 1), ((6, 164), 1, 2), ((6, 168), 4, 0), ((6, 200), 3, 0), ((6, 203), 3, 2), ((6, 206), 3, 3), ((7, 7), 7, 1), ((7, 13), 7, 2), ((7, 16), 7, 3), ((7, 19), 7, 4), ((7, 22), 7, 5), ((7, 25), 7, 6), ((7, 28), 7, 7), ((7, 31), 7, 8), ((7, 34), 7, 10), ((7, 38), 7, 13), ((7, 42), 7, 15), ((7, 45), 7, 16), ((7, 48), 7, 17), ((7, 51), 7, 20), ((7, 54), 7, 21), ((7, 57), 7, 22), ((7, 60), 7, 23), ((7, 63), 7, 25), ((7, 67), 7, 0), ((7, 86), 7, 9), ((7, 159), 7, 12), ((7, 162), 7, 11), ((7, 189), 7, 14), ((7, 195), 7, 18), ((7, 248), 7, 24), ((7, 251), 7, 19)]
/-- static arrays: which, and whether by the nest -/
def am_gtL : List ((Nat × Nat) × Nat × Nat) := [((2, 77), 1, 1), ((2, 80), 2, 1), ((2, 91), 3, 1), ((3, 92), 4, 1), ((5, 73), 1, 1), ((5, 76), 2, 1), ((5, 79), 3, 1), ((6, 216), 4, 0), ((6, 219), 1, 0), ((6, 222), 2, 0)]
/-- calls: 0 virtual, 1 static, 2 constructor, 3 static by the nest, 4 Object's constructor, 5 arraycopy, 6 min, 7 max, 8 abs -/
def am_ctL : List ((Nat × Nat) × Nat × Nat) := [((0, 1), 4, 0), ((0, 26), 6, 0), ((0, 36), 0, 2), ((0, 40), 7, 0), ((0, 46), 0, 5), ((1, 3), 4, 0), ((1, 35), 0, 9), ((1, 39), 0, 64), ((1, 49), 0, 10), ((1, 53), 0, 11), ((1, 56), 0, 18), ((1, 65), 1, 180), ((1, 71), 3, 106), ((1, 78), 0, 12), ((1, 81), 0, 13), ((1, 85), 0, 15), ((1, 89), 0, 17), ((1, 92), 5, 0), ((1, 98), 1, 14), ((1, 101), 1, 16), ((1, 105), 0, 19), ((2, 3), 4, 0), ((2, 20), 0, 23), ((2, 42), 0, 24), ((2, 52), 6, 0), ((2, 58), 0, 25), ((2, 65), 0, 64), ((2, 71), 1, 179), ((2, 83), 0, 60), ((2, 95), 0, 26), ((2, 98), 0, 29), ((2, 101), 0, 30), ((2, 104), 0, 32), ((2, 107), 8, 0), ((2, 111), 0, 27), ((2, 115), 0, 28), ((2, 118), 1, 31), ((2, 122), 0, 33), ((3, 3), 4, 0), ((3, 11), 2, 0), ((3, 30), 0, 36), ((3, 34), 0, 1), ((3, 43), 0, 64), ((3, 47), 0, 37), ((3, 51), 0, 4), ((3, 54), 0, 41), ((3, 57), 0, 42), ((3, 61), 0, 43), ((3, 64), 6, 0), ((3, 76), 3, 106), ((3, 80), 1, 39), ((3, 84), 0, 38), ((3, 88), 0, 3), ((3, 95), 1, 40), ((3, 105), 0, 60), ((3, 114), 3, 107), ((4, 3), 4, 0), ((4, 15), 1, 180), ((4, 23), 0, 51), ((4, 27), 0, 53), ((4, 37), 0, 64), ((4, 41), 0, 52), ((4, 51), 3, 106), ((4, 55), 0, 55), ((4, 59), 0, 56), ((4, 62), 0, 47), ((4, 78), 3, 107), ((4, 82), 0, 60), ((5, 3), 4, 0), ((5, 20), 2, 0), ((5, 33), 1, 180), ((5, 46), 0, 62), ((5, 50), 0, 1), ((5, 53), 0, 64), ((5, 57), 0, 66), ((5, 60), 0, 67), ((5, 63), 0, 68), ((5, 66), 0, 3), ((5, 70), 0, 4), ((5, 85), 0, 69), ((5, 89), 0, 6), ((5, 93), 0, 70), ((5, 96), 0, 74), ((5, 100), 0, 75), ((5, 103), 0, 76), ((5, 106), 0, 77), ((5, 115), 0, 5), ((5, 118), 0, 60), ((6, 1), 4, 0), ((6, 9), 2, 57), ((6, 18), 2, 20), ((6, 25), 2, 7), ((6, 32), 2, 44), ((6, 39), 2, 34), ((6, 55), 0, 58), ((6, 58), 0, 45), ((6, 61), 0, 103), ((6, 64), 0, 99), ((6, 68), 1, 102), ((6, 71), 0, 60), ((6, 75), 0, 61), ((6, 79), 0, 63), ((6, 83), 0, 59), ((6, 90), 0, 98), ((6, 108), 0, 5), ((6, 112), 0, 74), ((6, 116), 0, 69), ((6, 120), 0, 70), ((6, 123), 0, 71), ((6, 126), 0, 73), ((6, 130), 0, 72), ((6, 136), 0, 6), ((6, 139), 0, 21), ((6, 149), 0, 22), ((6, 152), 0, 104), ((6, 158), 0, 101), ((6, 161), 0, 100), ((6, 170), 0, 48), ((6, 174), 0, 49), ((6, 178), 0, 46), ((6, 181), 0, 51), ((6, 185), 0, 53), ((6, 188), 0, 50), ((6, 191), 0, 54), ((6, 194), 0, 47), ((6, 197), 0, 105), ((6, 209), 0, 65), ((6, 212), 0, 8), ((6, 213), 0, 35), ((7, 1), 4, 0), ((7, 71), 1, 109), ((7, 75), 0, 110), ((7, 79), 0, 112), ((7, 83), 1, 114), ((7, 90), 0, 117), ((7, 94), 0, 115), ((7, 98), 0, 113), ((7, 102), 0, 118), ((7, 105), 0, 119), ((7, 108), 0, 124), ((7, 111), 0, 127), ((7, 114), 0, 111), ((7, 118), 0, 116), ((7, 121), 0, 122), ((7, 125), 0, 123), ((7, 129), 0, 134), ((7, 132), 0, 136), ((7, 136), 0, 125), ((7, 140), 0, 138), ((7, 143), 0, 121), ((7, 147), 0, 120), ((7, 150), 0, 137), ((7, 153), 0, 139), ((7, 156), 0, 140), ((7, 167), 0, 142), ((7, 170), 0, 143), ((7, 173), 0, 145), ((7, 177), 0, 144), ((7, 180), 0, 146), ((7, 183), 0, 147), ((7, 186), 1, 149), ((7, 192), 0, 152), ((7, 198), 1, 155), ((7, 201), 0, 151), ((7, 204), 0, 156), ((7, 208), 0, 153), ((7, 211), 0, 154), ((7, 214), 0, 150), ((7, 218), 0, 157), ((7, 221), 0, 158), ((7, 224), 0, 159), ((7, 227), 0, 160), ((7, 230), 0, 166), ((7, 233), 0, 167), ((7, 236), 0, 168), ((7, 239), 0, 172), ((7, 242), 0, 170), ((7, 245), 0, 171), ((7, 254), 0, 173), ((7, 257), 0, 174), ((7, 260), 0, 176), ((7, 263), 0, 177), ((8, 9), 2, 78), ((8, 12), 2, 108), ((8, 13), 0, 79), ((8, 17), 0, 126), ((8, 18), 0, 80), ((8, 22), 0, 128), ((8, 23), 0, 81), ((8, 27), 0, 129), ((8, 28), 0, 82), ((8, 31), 0, 130), ((8, 32), 0, 83), ((8, 36), 0, 131), ((8, 37), 0, 84), ((8, 40), 0, 132), ((8, 41), 0, 85), ((8, 45), 0, 133), ((8, 46), 0, 86), ((8, 49), 0, 135), ((8, 50), 0, 87), ((8, 53), 0, 141), ((8, 54), 0, 88), ((8, 57), 0, 148), ((8, 58), 0, 89), ((8, 61), 0, 161), ((8, 62), 0, 90), ((8, 65), 0, 162), ((8, 66), 0, 91), ((8, 69), 0, 163), ((8, 70), 0, 92), ((8, 73), 0, 164), ((8, 74), 0, 93), ((8, 77), 0, 165), ((8, 78), 0, 94), ((8, 81), 0, 167), ((8, 82), 0, 95), ((8, 85), 0, 169), ((8, 86), 0, 96), ((8, 89), 0, 175), ((8, 90), 0, 97), ((8, 93), 0, 178)]
def am_ccL : List ((Nat × Nat) × Int32) := [((6, 111), (-2147483648)), ((2, 94), (100000)), ((7, 41), (42000)), ((7, 128), (-2147483648))]
def am_clL : List ((Nat × Nat) × Int64) := [((2, 86), (-1)), ((4, 21), (1000)), ((7, 165), (-1))]
def am_nwL : List ((Nat × Nat) × Nat) := [((6, 7), 5), ((6, 16), 2), ((6, 23), 1), ((6, 30), 4), ((6, 37), 3), ((3, 9), 0), ((5, 18), 0), ((8, 7), 6), ((8, 10), 7)]
def am_mwL : List ((Nat × Nat) × Nat) := [((1, 11), 3), ((2, 11), 4)]
