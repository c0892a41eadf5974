abbrev R_F : String := "LathePieces$Profile"
def F_F : u_T := fun k => match k with
  | 0 => ("LathePieces$Profile", "radii", "[I", true)
  | 1 => ("LathePieces$Profile", "begun", "Z", false)
  | 2 => ("LathePieces$Profile", "last", "I", false)
  | 3 => ("LathePieces$Profile", "lastRadius", "I", false)
  | _ => ("LathePieces$Profile", "ways", "I", false)
def t_F : Nat → FieldType := fun k => match k with
  | 0 => .array .int
  | 1 => .boolean
  | 2 => .int
  | 3 => .int
  | _ => .int
theorem n_F : ∀ a, a < 5 → ∀ b, b < 5 → a ≠ b → (F_F a).2.1 ≠ (F_F b).2.1 := by decide +kernel
theorem t_F_ok : ∀ k, k < 5 → parseFieldDescriptor (F_F k).2.2.1 = some (t_F k) := by decide +kernel
abbrev R_C : String := "LathePieces"
def F_C : u_T := fun k => match k with
  | 0 => ("LathePieces", "profile", "LLathePieces$Profile;", true)
  | 1 => ("LathePieces", "pieces", "[LLathePieces$Piece;", true)
  | 2 => ("LathePieces", "pieceCount", "I", false)
  | 3 => ("LathePieces", "noses", "[LLathePieces$Nose;", true)
  | 4 => ("LathePieces", "noseCount", "I", false)
  | 5 => ("LathePieces", "reaches", "[LLathePieces$Reach;", true)
  | 6 => ("LathePieces", "rings", "[LLathePieces$Ring;", true)
  | 7 => ("LathePieces", "ringCount", "I", false)
  | 8 => ("LathePieces", "rowRadii", "[I", true)
  | 9 => ("LathePieces", "rowTurns", "[I", true)
  | 10 => ("LathePieces", "rowCount", "I", false)
  | 11 => ("LathePieces", "pitchAbove", "I", false)
  | _ => ("LathePieces", "pitchBelow", "I", false)
def t_C : Nat → FieldType := fun k => match k with
  | 0 => .object "LathePieces$Profile"
  | 1 => .array (.object "LathePieces$Piece")
  | 2 => .int
  | 3 => .array (.object "LathePieces$Nose")
  | 4 => .int
  | 5 => .array (.object "LathePieces$Reach")
  | 6 => .array (.object "LathePieces$Ring")
  | 7 => .int
  | 8 => .array .int
  | 9 => .array .int
  | 10 => .int
  | 11 => .int
  | _ => .int
theorem n_C : ∀ a, a < 13 → ∀ b, b < 13 → a ≠ b → (F_C a).2.1 ≠ (F_C b).2.1 := by decide +kernel
theorem t_C_ok : ∀ k, k < 13 → parseFieldDescriptor (F_C k).2.2.1 = some (t_C k) := by decide +kernel
abbrev R_P : String := "LathePieces$Piece"
def F_P : u_T := fun k => match k with
  | 0 => ("LathePieces$Piece", "radii", "[I", true)
  | 1 => ("LathePieces$Piece", "length", "I", true)
  | 2 => ("LathePieces$Piece", "blank", "I", true)
  | _ => ("LathePieces$Piece", "ways", "I", true)
def t_P : Nat → FieldType := fun k => match k with
  | 0 => .array .int
  | 1 => .int
  | 2 => .int
  | _ => .int
theorem n_P : ∀ a, a < 4 → ∀ b, b < 4 → a ≠ b → (F_P a).2.1 ≠ (F_P b).2.1 := by decide +kernel
theorem t_P_ok : ∀ k, k < 4 → parseFieldDescriptor (F_P k).2.2.1 = some (t_P k) := by decide +kernel
abbrev R_N : String := "LathePieces$Nose"
def F_N : u_T := fun k => match k with
  | _ => ("LathePieces$Nose", "heights", "[I", true)
def t_N : Nat → FieldType := fun k => match k with
  | _ => .array .int
theorem n_N : ∀ a, a < 1 → ∀ b, b < 1 → a ≠ b → (F_N a).2.1 ≠ (F_N b).2.1 := by decide +kernel
theorem t_N_ok : ∀ k, k < 1 → parseFieldDescriptor (F_N k).2.2.1 = some (t_N k) := by decide +kernel
abbrev R_R : String := "LathePieces$Reach"
def F_R : u_T := fun k => match k with
  | _ => ("LathePieces$Reach", "lows", "[I", true)
def t_R : Nat → FieldType := fun k => match k with
  | _ => .array .int
theorem n_R : ∀ a, a < 1 → ∀ b, b < 1 → a ≠ b → (F_R a).2.1 ≠ (F_R b).2.1 := by decide +kernel
theorem t_R_ok : ∀ k, k < 1 → parseFieldDescriptor (F_R k).2.2.1 = some (t_R k) := by decide +kernel
abbrev R_G : String := "LathePieces$Ring"
def F_G : u_T := fun k => match k with
  | 0 => ("LathePieces$Ring", "aboves", "[I", true)
  | 1 => ("LathePieces$Ring", "belows", "[I", true)
  | 2 => ("LathePieces$Ring", "count", "I", false)
  | _ => ("LathePieces$Ring", "sumParts", "J", false)
def t_G : Nat → FieldType := fun k => match k with
  | 0 => .array .int
  | 1 => .array .int
  | 2 => .int
  | _ => .long
theorem n_G : ∀ a, a < 4 → ∀ b, b < 4 → a ≠ b → (F_G a).2.1 ≠ (F_G b).2.1 := by decide +kernel
theorem t_G_ok : ∀ k, k < 4 → parseFieldDescriptor (F_G k).2.2.1 = some (t_G k) := by decide +kernel
abbrev R_M : String := "LathePiecesModel"
def F_M : u_T := fun k => match k with
  | 0 => ("LathePiecesModel", "code", "I", false)
  | 1 => ("LathePiecesModel", "begun", "Z", false)
  | 2 => ("LathePiecesModel", "first", "I", false)
  | 3 => ("LathePiecesModel", "ways", "I", false)
  | 4 => ("LathePiecesModel", "at", "[I", true)
  | 5 => ("LathePiecesModel", "end", "[I", true)
  | 6 => ("LathePiecesModel", "sort", "[I", true)
  | 7 => ("LathePiecesModel", "centre", "[I", true)
  | 8 => ("LathePiecesModel", "high", "[I", true)
  | 9 => ("LathePiecesModel", "pieces", "I", false)
  | 10 => ("LathePiecesModel", "length", "[I", true)
  | 11 => ("LathePiecesModel", "made", "[I", true)
  | 12 => ("LathePiecesModel", "radii", "[I", true)
  | 13 => ("LathePiecesModel", "tools", "I", false)
  | 14 => ("LathePiecesModel", "noses", "[I", true)
  | 15 => ("LathePiecesModel", "lifts", "[I", true)
  | 16 => ("LathePiecesModel", "reach", "[I", true)
  | 17 => ("LathePiecesModel", "rings", "I", false)
  | 18 => ("LathePiecesModel", "wedges", "[I", true)
  | 19 => ("LathePiecesModel", "above", "[I", true)
  | 20 => ("LathePiecesModel", "below", "[I", true)
  | 21 => ("LathePiecesModel", "pitchAbove", "I", false)
  | 22 => ("LathePiecesModel", "pitchBelow", "I", false)
  | 23 => ("LathePiecesModel", "rows", "I", false)
  | 24 => ("LathePiecesModel", "upTo", "[I", true)
  | _ => ("LathePiecesModel", "turns", "[I", true)
def t_M : Nat → FieldType := fun k => match k with
  | 0 => .int
  | 1 => .boolean
  | 2 => .int
  | 3 => .int
  | 4 => .array .int
  | 5 => .array .int
  | 6 => .array .int
  | 7 => .array .int
  | 8 => .array .int
  | 9 => .int
  | 10 => .array .int
  | 11 => .array .int
  | 12 => .array .int
  | 13 => .int
  | 14 => .array .int
  | 15 => .array .int
  | 16 => .array .int
  | 17 => .int
  | 18 => .array .int
  | 19 => .array .int
  | 20 => .array .int
  | 21 => .int
  | 22 => .int
  | 23 => .int
  | 24 => .array .int
  | _ => .array .int
theorem n_M : ∀ a, a < 26 → ∀ b, b < 26 → a ≠ b → (F_M a).2.1 ≠ (F_M b).2.1 := by decide +kernel
theorem t_M_ok : ∀ k, k < 26 → parseFieldDescriptor (F_M k).2.2.1 = some (t_M k) := by decide +kernel
abbrev R_L : String := "LathePiecesLaw"
abbrev R_J : String := "java/lang/Math"
abbrev R_A : String := "java/util/Arrays"
abbrev R_Y : String := "java/lang/System"
abbrev classes : List vw_C := [(R_N, F_N, 1), (R_P, F_P, 4), (R_F, F_F, 5), (R_R, F_R, 1), (R_G, F_G, 4), (R_C, F_C, 13), (R_M, F_M, 26)]
abbrev b_A_copyOf : ByteArray := prog_19_method_123_code
abbrev y_A_copyOf : MethodName := ⟨"java/util/Arrays", "copyOf", "([II)[I"⟩
abbrev b_C_about : ByteArray := prog_1_method_7_code
abbrev y_C_about : MethodName := ⟨"LathePieces", "about", "(II)I"⟩
abbrev b_C_arc : ByteArray := prog_1_method_4_code
abbrev y_C_arc : MethodName := ⟨"LathePieces", "arc", "(IIIIZ)Z"⟩
abbrev b_C_checkBehindLast : ByteArray := prog_1_method_33_code
abbrev y_C_checkBehindLast : MethodName := ⟨"LathePieces", "checkBehindLast", "(I)V"⟩
abbrev b_C_checkNotBelow : ByteArray := prog_1_method_36_code
abbrev y_C_checkNotBelow : MethodName := ⟨"LathePieces", "checkNotBelow", "(II)V"⟩
abbrev b_C_checkNumber : ByteArray := prog_1_method_35_code
abbrev y_C_checkNumber : MethodName := ⟨"LathePieces", "checkNumber", "(III)V"⟩
abbrev b_C_checkPart : ByteArray := prog_1_method_37_code
abbrev y_C_checkPart : MethodName := ⟨"LathePieces", "checkPart", "(I)V"⟩
abbrev b_C_checkRough : ByteArray := prog_1_method_34_code
abbrev y_C_checkRough : MethodName := ⟨"LathePieces", "checkRough", "(II)V"⟩
abbrev b_C_checkWayEnd : ByteArray := prog_1_method_32_code
abbrev y_C_checkWayEnd : MethodName := ⟨"LathePieces", "checkWayEnd", "(II)V"⟩
abbrev b_C_closes : ByteArray := prog_1_method_21_code
abbrev y_C_closes : MethodName := ⟨"LathePieces", "closes", "(I)Z"⟩
abbrev b_C_commonDivisor : ByteArray := prog_1_method_39_code
abbrev y_C_commonDivisor : MethodName := ⟨"LathePieces", "commonDivisor", "(JJ)J"⟩
abbrev b_C_copy : ByteArray := prog_1_method_16_code
abbrev y_C_copy : MethodName := ⟨"LathePieces", "copy", "(II)I"⟩
abbrev b_C_cut : ByteArray := prog_1_method_12_code
abbrev y_C_cut : MethodName := ⟨"LathePieces", "cut", "(IIIII)I"⟩
abbrev b_C_flute : ByteArray := prog_1_method_22_code
abbrev y_C_flute : MethodName := ⟨"LathePieces", "flute", "(III)J"⟩
abbrev b_C_fractionPart : ByteArray := prog_1_method_38_code
abbrev y_C_fractionPart : MethodName := ⟨"LathePieces", "fractionPart", "(JJI)J"⟩
abbrev b_C_gap : ByteArray := prog_1_method_20_code
abbrev y_C_gap : MethodName := ⟨"LathePieces", "gap", "(II)J"⟩
abbrev b_C_hollow : ByteArray := prog_1_method_15_code
abbrev y_C_hollow : MethodName := ⟨"LathePieces", "hollow", "(III)I"⟩
abbrev b_C_init : ByteArray := prog_1_method_1_code
abbrev y_C_init : MethodName := ⟨"LathePieces", "<init>", "()V"⟩
abbrev b_C_left : ByteArray := prog_1_method_10_code
abbrev y_C_left : MethodName := ⟨"LathePieces", "left", "(II)I"⟩
abbrev b_C_line : ByteArray := prog_1_method_3_code
abbrev y_C_line : MethodName := ⟨"LathePieces", "line", "(II)I"⟩
abbrev b_C_mitre : ByteArray := prog_1_method_19_code
abbrev y_C_mitre : MethodName := ⟨"LathePieces", "mitre", "(III)J"⟩
abbrev b_C_noseAt : ByteArray := prog_1_method_28_code
abbrev y_C_noseAt : MethodName := ⟨"LathePieces", "noseAt", "(I)LLathePieces$Nose;"⟩
abbrev b_C_passes : ByteArray := prog_1_method_11_code
abbrev y_C_passes : MethodName := ⟨"LathePieces", "passes", "(IIII)I"⟩
abbrev b_C_pieceAt : ByteArray := prog_1_method_27_code
abbrev y_C_pieceAt : MethodName := ⟨"LathePieces", "pieceAt", "(I)LLathePieces$Piece;"⟩
abbrev b_C_radius : ByteArray := prog_1_method_6_code
abbrev y_C_radius : MethodName := ⟨"LathePieces", "radius", "(II)I"⟩
abbrev b_C_radiusAt : ByteArray := prog_1_method_30_code
abbrev y_C_radiusAt : MethodName := ⟨"LathePieces", "radiusAt", "(II)I"⟩
abbrev b_C_reachOf : ByteArray := prog_1_method_31_code
abbrev y_C_reachOf : MethodName := ⟨"LathePieces", "reachOf", "(II)LLathePieces$Reach;"⟩
abbrev b_C_reached : ByteArray := prog_1_method_9_code
abbrev y_C_reached : MethodName := ⟨"LathePieces", "reached", "(III)I"⟩
abbrev b_C_ring : ByteArray := prog_1_method_17_code
abbrev y_C_ring : MethodName := ⟨"LathePieces", "ring", "()I"⟩
abbrev b_C_ringAt : ByteArray := prog_1_method_29_code
abbrev y_C_ringAt : MethodName := ⟨"LathePieces", "ringAt", "(I)LLathePieces$Ring;"⟩
abbrev b_C_row : ByteArray := prog_1_method_25_code
abbrev y_C_row : MethodName := ⟨"LathePieces", "row", "(II)I"⟩
abbrev b_C_speed : ByteArray := prog_1_method_26_code
abbrev y_C_speed : MethodName := ⟨"LathePieces", "speed", "(II)I"⟩
abbrev b_C_start : ByteArray := prog_1_method_2_code
abbrev y_C_start : MethodName := ⟨"LathePieces", "start", "(I)V"⟩
abbrev b_C_steady : ByteArray := prog_1_method_13_code
abbrev y_C_steady : MethodName := ⟨"LathePieces", "steady", "(III)I"⟩
abbrev b_C_thread : ByteArray := prog_1_method_23_code
abbrev y_C_thread : MethodName := ⟨"LathePieces", "thread", "(II)V"⟩
abbrev b_C_threadAt : ByteArray := prog_1_method_24_code
abbrev y_C_threadAt : MethodName := ⟨"LathePieces", "threadAt", "(II)J"⟩
abbrev b_C_tool : ByteArray := prog_1_method_8_code
abbrev y_C_tool : MethodName := ⟨"LathePieces", "tool", "(I)I"⟩
abbrev b_C_turn : ByteArray := prog_1_method_5_code
abbrev y_C_turn : MethodName := ⟨"LathePieces", "turn", "()I"⟩
abbrev b_C_volume : ByteArray := prog_1_method_14_code
abbrev y_C_volume : MethodName := ⟨"LathePieces", "volume", "(IZ)J"⟩
abbrev b_C_wedge : ByteArray := prog_1_method_18_code
abbrev y_C_wedge : MethodName := ⟨"LathePieces", "wedge", "(III)I"⟩
abbrev b_C_wholeRoot : ByteArray := prog_1_method_40_code
abbrev y_C_wholeRoot : MethodName := ⟨"LathePieces", "wholeRoot", "(I)I"⟩
abbrev b_F_addArc : ByteArray := prog_4_method_5_code
abbrev y_F_addArc : MethodName := ⟨"LathePieces$Profile", "addArc", "(IIIIZ)V"⟩
abbrev b_F_addLine : ByteArray := prog_4_method_3_code
abbrev y_F_addLine : MethodName := ⟨"LathePieces$Profile", "addLine", "(II)V"⟩
abbrev b_F_arcFits : ByteArray := prog_4_method_4_code
abbrev y_F_arcFits : MethodName := ⟨"LathePieces$Profile", "arcFits", "(IIIIZ)Z"⟩
abbrev b_F_begin : ByteArray := prog_4_method_2_code
abbrev y_F_begin : MethodName := ⟨"LathePieces$Profile", "begin", "(I)V"⟩
abbrev b_F_goOnFrom : ByteArray := prog_4_method_6_code
abbrev y_F_goOnFrom : MethodName := ⟨"LathePieces$Profile", "goOnFrom", "(II)V"⟩
abbrev b_F_init : ByteArray := prog_4_method_1_code
abbrev y_F_init : MethodName := ⟨"LathePieces$Profile", "<init>", "()V"⟩
abbrev b_F_squareFar : ByteArray := prog_4_method_7_code
abbrev y_F_squareFar : MethodName := ⟨"LathePieces$Profile", "squareFar", "(II)I"⟩
abbrev b_G_addWedge : ByteArray := prog_6_method_2_code
abbrev y_G_addWedge : MethodName := ⟨"LathePieces$Ring", "addWedge", "(II)V"⟩
abbrev b_G_gapParts : ByteArray := prog_6_method_3_code
abbrev y_G_gapParts : MethodName := ⟨"LathePieces$Ring", "gapParts", "()J"⟩
abbrev b_G_init : ByteArray := prog_6_method_1_code
abbrev y_G_init : MethodName := ⟨"LathePieces$Ring", "<init>", "()V"⟩
abbrev b_J_abs : ByteArray := prog_14_method_59_code
abbrev y_J_abs : MethodName := ⟨"java/lang/Math", "abs", "(I)I"⟩
abbrev b_J_abs_JJ : ByteArray := prog_14_method_61_code
abbrev y_J_abs_JJ : MethodName := ⟨"java/lang/Math", "abs", "(J)J"⟩
abbrev b_J_floorDiv : ByteArray := prog_14_method_47_code
abbrev y_J_floorDiv : MethodName := ⟨"java/lang/Math", "floorDiv", "(II)I"⟩
abbrev b_J_max : ByteArray := prog_14_method_65_code
abbrev y_J_max : MethodName := ⟨"java/lang/Math", "max", "(II)I"⟩
abbrev b_J_min : ByteArray := prog_14_method_69_code
abbrev y_J_min : MethodName := ⟨"java/lang/Math", "min", "(II)I"⟩
abbrev b_L_about : ByteArray := method_8_code
abbrev y_L_about : MethodName := ⟨"LathePiecesLaw", "about", "(LLathePieces;II[J)I"⟩
abbrev b_L_arc : ByteArray := method_5_code
abbrev y_L_arc : MethodName := ⟨"LathePiecesLaw", "arc", "(LLathePieces;IIIIZ[J)I"⟩
abbrev b_L_closes : ByteArray := method_22_code
abbrev y_L_closes : MethodName := ⟨"LathePiecesLaw", "closes", "(LLathePieces;I[J)I"⟩
abbrev b_L_copy : ByteArray := method_17_code
abbrev y_L_copy : MethodName := ⟨"LathePiecesLaw", "copy", "(LLathePieces;II[J)I"⟩
abbrev b_L_cut : ByteArray := method_13_code
abbrev y_L_cut : MethodName := ⟨"LathePiecesLaw", "cut", "(LLathePieces;IIIII[J)I"⟩
abbrev b_L_flute : ByteArray := method_23_code
abbrev y_L_flute : MethodName := ⟨"LathePiecesLaw", "flute", "(LLathePieces;III[J)I"⟩
abbrev b_L_gap : ByteArray := method_21_code
abbrev y_L_gap : MethodName := ⟨"LathePiecesLaw", "gap", "(LLathePieces;II[J)I"⟩
abbrev b_L_hollow : ByteArray := method_16_code
abbrev y_L_hollow : MethodName := ⟨"LathePiecesLaw", "hollow", "(LLathePieces;III[J)I"⟩
abbrev b_L_law : ByteArray := code
abbrev y_L_law : MethodName := ⟨"LathePiecesLaw", "law", "([I)Z"⟩
abbrev b_L_left : ByteArray := method_11_code
abbrev y_L_left : MethodName := ⟨"LathePiecesLaw", "left", "(LLathePieces;II[J)I"⟩
abbrev b_L_line : ByteArray := method_4_code
abbrev y_L_line : MethodName := ⟨"LathePiecesLaw", "line", "(LLathePieces;II[J)I"⟩
abbrev b_L_mitre : ByteArray := method_20_code
abbrev y_L_mitre : MethodName := ⟨"LathePiecesLaw", "mitre", "(LLathePieces;III[J)I"⟩
abbrev b_L_passes : ByteArray := method_12_code
abbrev y_L_passes : MethodName := ⟨"LathePiecesLaw", "passes", "(LLathePieces;IIII[J)I"⟩
abbrev b_L_radius : ByteArray := method_7_code
abbrev y_L_radius : MethodName := ⟨"LathePiecesLaw", "radius", "(LLathePieces;II[J)I"⟩
abbrev b_L_reached : ByteArray := method_10_code
abbrev y_L_reached : MethodName := ⟨"LathePiecesLaw", "reached", "(LLathePieces;III[J)I"⟩
abbrev b_L_ring : ByteArray := method_18_code
abbrev y_L_ring : MethodName := ⟨"LathePiecesLaw", "ring", "(LLathePieces;[J)I"⟩
abbrev b_L_row : ByteArray := method_26_code
abbrev y_L_row : MethodName := ⟨"LathePiecesLaw", "row", "(LLathePieces;II[J)I"⟩
abbrev b_L_speed : ByteArray := method_27_code
abbrev y_L_speed : MethodName := ⟨"LathePiecesLaw", "speed", "(LLathePieces;II[J)I"⟩
abbrev b_L_start : ByteArray := method_3_code
abbrev y_L_start : MethodName := ⟨"LathePiecesLaw", "start", "(LLathePieces;I)I"⟩
abbrev b_L_steady : ByteArray := method_14_code
abbrev y_L_steady : MethodName := ⟨"LathePiecesLaw", "steady", "(LLathePieces;III[J)I"⟩
abbrev b_L_thread : ByteArray := method_24_code
abbrev y_L_thread : MethodName := ⟨"LathePiecesLaw", "thread", "(LLathePieces;II)I"⟩
abbrev b_L_threadAt : ByteArray := method_25_code
abbrev y_L_threadAt : MethodName := ⟨"LathePiecesLaw", "threadAt", "(LLathePieces;II[J)I"⟩
abbrev b_L_tool : ByteArray := method_9_code
abbrev y_L_tool : MethodName := ⟨"LathePiecesLaw", "tool", "(LLathePieces;I[J)I"⟩
abbrev b_L_turn : ByteArray := method_6_code
abbrev y_L_turn : MethodName := ⟨"LathePiecesLaw", "turn", "(LLathePieces;[J)I"⟩
abbrev b_L_volume : ByteArray := method_15_code
abbrev y_L_volume : MethodName := ⟨"LathePiecesLaw", "volume", "(LLathePieces;IZ[J)I"⟩
abbrev b_L_wedge : ByteArray := method_19_code
abbrev y_L_wedge : MethodName := ⟨"LathePiecesLaw", "wedge", "(LLathePieces;III[J)I"⟩
abbrev b_M_about : ByteArray := prog_8_method_19_code
abbrev y_M_about : MethodName := ⟨"LathePiecesModel", "about", "(II)I"⟩
abbrev b_M_add : ByteArray := prog_8_method_9_code
abbrev y_M_add : MethodName := ⟨"LathePiecesModel", "add", "(IIIII)V"⟩
abbrev b_M_arc : ByteArray := prog_8_method_12_code
abbrev y_M_arc : MethodName := ⟨"LathePiecesModel", "arc", "(IIIIZ)Z"⟩
abbrev b_M_blank : ByteArray := prog_8_method_18_code
abbrev y_M_blank : MethodName := ⟨"LathePiecesModel", "blank", "(I)I"⟩
abbrev b_M_closes : ByteArray := prog_8_method_39_code
abbrev y_M_closes : MethodName := ⟨"LathePiecesModel", "closes", "(I)Z"⟩
abbrev b_M_copy : ByteArray := prog_8_method_32_code
abbrev y_M_copy : MethodName := ⟨"LathePiecesModel", "copy", "(II)I"⟩
abbrev b_M_cut : ByteArray := prog_8_method_27_code
abbrev y_M_cut : MethodName := ⟨"LathePiecesModel", "cut", "(IIIII)I"⟩
abbrev b_M_flute : ByteArray := prog_8_method_40_code
abbrev y_M_flute : MethodName := ⟨"LathePiecesModel", "flute", "(III)J"⟩
abbrev b_M_gap : ByteArray := prog_8_method_38_code
abbrev y_M_gap : MethodName := ⟨"LathePiecesModel", "gap", "(II)J"⟩
abbrev b_M_gapOf : ByteArray := prog_8_method_37_code
abbrev y_M_gapOf : MethodName := ⟨"LathePiecesModel", "gapOf", "(I)J"⟩
abbrev b_M_hasPlace : ByteArray := prog_8_method_16_code
abbrev y_M_hasPlace : MethodName := ⟨"LathePiecesModel", "hasPlace", "(II)Z"⟩
abbrev b_M_hollow : ByteArray := prog_8_method_31_code
abbrev y_M_hollow : MethodName := ⟨"LathePiecesModel", "hollow", "(III)I"⟩
abbrev b_M_in : ByteArray := prog_8_method_3_code
abbrev y_M_in : MethodName := ⟨"LathePiecesModel", "in", "(JJJ)Z"⟩
abbrev b_M_init : ByteArray := prog_8_method_1_code
abbrev y_M_init : MethodName := ⟨"LathePiecesModel", "<init>", "()V"⟩
abbrev b_M_isPiece : ByteArray := prog_8_method_15_code
abbrev y_M_isPiece : MethodName := ⟨"LathePiecesModel", "isPiece", "(I)Z"⟩
abbrev b_M_lastAt : ByteArray := prog_8_method_6_code
abbrev y_M_lastAt : MethodName := ⟨"LathePiecesModel", "lastAt", "()I"⟩
abbrev b_M_lastRadius : ByteArray := prog_8_method_7_code
abbrev y_M_lastRadius : MethodName := ⟨"LathePiecesModel", "lastRadius", "()I"⟩
abbrev b_M_left : ByteArray := prog_8_method_23_code
abbrev y_M_left : MethodName := ⟨"LathePiecesModel", "left", "(II)I"⟩
abbrev b_M_line : ByteArray := prog_8_method_10_code
abbrev y_M_line : MethodName := ⟨"LathePiecesModel", "line", "(II)I"⟩
abbrev b_M_look : ByteArray := prog_8_method_8_code
abbrev y_M_look : MethodName := ⟨"LathePiecesModel", "look", "(II)V"⟩
abbrev b_M_lookRough : ByteArray := prog_8_method_25_code
abbrev y_M_lookRough : MethodName := ⟨"LathePiecesModel", "lookRough", "(IIII)V"⟩
abbrev b_M_mitre : ByteArray := prog_8_method_36_code
abbrev y_M_mitre : MethodName := ⟨"LathePiecesModel", "mitre", "(III)J"⟩
abbrev b_M_nextHeld : ByteArray := prog_8_method_28_code
abbrev y_M_nextHeld : MethodName := ⟨"LathePiecesModel", "nextHeld", "(III)I"⟩
abbrev b_M_onWay : ByteArray := prog_8_method_13_code
abbrev y_M_onWay : MethodName := ⟨"LathePiecesModel", "onWay", "(IIII)I"⟩
abbrev b_M_partOf : ByteArray := prog_8_method_35_code
abbrev y_M_partOf : MethodName := ⟨"LathePiecesModel", "partOf", "(JJI)J"⟩
abbrev b_M_passes : ByteArray := prog_8_method_26_code
abbrev y_M_passes : MethodName := ⟨"LathePiecesModel", "passes", "(IIII)I"⟩
abbrev b_M_radius : ByteArray := prog_8_method_17_code
abbrev y_M_radius : MethodName := ⟨"LathePiecesModel", "radius", "(II)I"⟩
abbrev b_M_reachAll : ByteArray := prog_8_method_21_code
abbrev y_M_reachAll : MethodName := ⟨"LathePiecesModel", "reachAll", "(II)V"⟩
abbrev b_M_reached : ByteArray := prog_8_method_22_code
abbrev y_M_reached : MethodName := ⟨"LathePiecesModel", "reached", "(III)I"⟩
abbrev b_M_ring : ByteArray := prog_8_method_33_code
abbrev y_M_ring : MethodName := ⟨"LathePiecesModel", "ring", "()I"⟩
abbrev b_M_root : ByteArray := prog_8_method_4_code
abbrev y_M_root : MethodName := ⟨"LathePiecesModel", "root", "(I)I"⟩
abbrev b_M_row : ByteArray := prog_8_method_43_code
abbrev y_M_row : MethodName := ⟨"LathePiecesModel", "row", "(II)I"⟩
abbrev b_M_speed : ByteArray := prog_8_method_44_code
abbrev y_M_speed : MethodName := ⟨"LathePiecesModel", "speed", "(II)I"⟩
abbrev b_M_square : ByteArray := prog_8_method_11_code
abbrev y_M_square : MethodName := ⟨"LathePiecesModel", "square", "(IIII)I"⟩
abbrev b_M_start : ByteArray := prog_8_method_5_code
abbrev y_M_start : MethodName := ⟨"LathePiecesModel", "start", "(I)V"⟩
abbrev b_M_steady : ByteArray := prog_8_method_29_code
abbrev y_M_steady : MethodName := ⟨"LathePiecesModel", "steady", "(III)I"⟩
abbrev b_M_thread : ByteArray := prog_8_method_41_code
abbrev y_M_thread : MethodName := ⟨"LathePiecesModel", "thread", "(II)V"⟩
abbrev b_M_threadAt : ByteArray := prog_8_method_42_code
abbrev y_M_threadAt : MethodName := ⟨"LathePiecesModel", "threadAt", "(II)J"⟩
abbrev b_M_thrown : ByteArray := prog_8_method_2_code
abbrev y_M_thrown : MethodName := ⟨"LathePiecesModel", "thrown", "()I"⟩
abbrev b_M_tool : ByteArray := prog_8_method_20_code
abbrev y_M_tool : MethodName := ⟨"LathePiecesModel", "tool", "(I)I"⟩
abbrev b_M_turn : ByteArray := prog_8_method_14_code
abbrev y_M_turn : MethodName := ⟨"LathePiecesModel", "turn", "()I"⟩
abbrev b_M_volume : ByteArray := prog_8_method_30_code
abbrev y_M_volume : MethodName := ⟨"LathePiecesModel", "volume", "(IZ)J"⟩
abbrev b_M_wantedBelow : ByteArray := prog_8_method_24_code
abbrev y_M_wantedBelow : MethodName := ⟨"LathePiecesModel", "wantedBelow", "(IIJ)I"⟩
abbrev b_M_wedge : ByteArray := prog_8_method_34_code
abbrev y_M_wedge : MethodName := ⟨"LathePiecesModel", "wedge", "(III)I"⟩
abbrev b_N_init : ByteArray := prog_2_method_1_code
abbrev y_N_init : MethodName := ⟨"LathePieces$Nose", "<init>", "(I)V"⟩
abbrev b_P_greatestDifference : ByteArray := prog_3_method_5_code
abbrev y_P_greatestDifference : MethodName := ⟨"LathePieces$Piece", "greatestDifference", "(LLathePieces$Piece;)I"⟩
abbrev b_P_heldBehind : ByteArray := prog_3_method_2_code
abbrev y_P_heldBehind : MethodName := ⟨"LathePieces$Piece", "heldBehind", "(II)I"⟩
abbrev b_P_init : ByteArray := prog_3_method_1_code
abbrev y_P_init : MethodName := ⟨"LathePieces$Piece", "<init>", "(LLathePieces$Profile;)V"⟩
abbrev b_P_lastPlacesFrom : ByteArray := prog_3_method_4_code
abbrev y_P_lastPlacesFrom : MethodName := ⟨"LathePieces$Piece", "lastPlacesFrom", "(I)I"⟩
abbrev b_P_sumOfSquares : ByteArray := prog_3_method_3_code
abbrev y_P_sumOfSquares : MethodName := ⟨"LathePieces$Piece", "sumOfSquares", "(Z)J"⟩
abbrev b_R_init : ByteArray := prog_5_method_1_code
abbrev y_R_init : MethodName := ⟨"LathePieces$Reach", "<init>", "([I[I)V"⟩
abbrev b_R_liftAt : ByteArray := prog_5_method_2_code
abbrev y_R_liftAt : MethodName := ⟨"LathePieces$Reach", "liftAt", "([I[II)I"⟩
abbrev b_R_lowAt : ByteArray := prog_5_method_3_code
abbrev y_R_lowAt : MethodName := ⟨"LathePieces$Reach", "lowAt", "([I[II)I"⟩
abbrev b_R_passCount : ByteArray := prog_5_method_6_code
abbrev y_R_passCount : MethodName := ⟨"LathePieces$Reach", "passCount", "(III)I"⟩
abbrev b_R_placesAbove : ByteArray := prog_5_method_4_code
abbrev y_R_placesAbove : MethodName := ⟨"LathePieces$Reach", "placesAbove", "([I)I"⟩
abbrev b_R_placesCut : ByteArray := prog_5_method_5_code
abbrev y_R_placesCut : MethodName := ⟨"LathePieces$Reach", "placesCut", "(IIJ)I"⟩
abbrev b_R_wantedAt : ByteArray := prog_5_method_7_code
abbrev y_R_wantedAt : MethodName := ⟨"LathePieces$Reach", "wantedAt", "(III)I"⟩
theorem g_0 : (Cond.initialized "LathePiecesLaw") ∈ GW := gw_1 (List.mem_of_getElem? (i := 0) rfl) rfl
theorem g_1 : (Cond.initialized "LathePieces") ∈ GW := gw_1 (List.mem_of_getElem? (i := 1) rfl) rfl
theorem g_2 : (Cond.initialized "LathePieces$Profile") ∈ GW := gw_1 (List.mem_of_getElem? (i := 2) rfl) rfl
theorem g_3 : (Cond.initialized "LathePiecesModel") ∈ GW := gw_1 (List.mem_of_getElem? (i := 3) rfl) rfl
theorem g_4 : (Cond.initialized "java/lang/Throwable") ∈ GW := gw_1 (List.mem_of_getElem? (i := 4) rfl) rfl
theorem g_5 : (Cond.initialized "java/lang/Exception") ∈ GW := gw_1 (List.mem_of_getElem? (i := 5) rfl) rfl
theorem g_6 : (Cond.initialized "java/lang/RuntimeException") ∈ GW := gw_1 (List.mem_of_getElem? (i := 6) rfl) rfl
theorem g_7 : (Cond.initialized "java/lang/IllegalArgumentException") ∈ GW := gw_1 (List.mem_of_getElem? (i := 7) rfl) rfl
theorem g_8 : (Cond.initialized "java/lang/IllegalStateException") ∈ GW := gw_1 (List.mem_of_getElem? (i := 8) rfl) rfl
theorem g_9 : (Cond.initialized "java/lang/Math") ∈ GW := gw_1 (List.mem_of_getElem? (i := 9) rfl) rfl
theorem g_10 : (Cond.initialized "LathePieces$Piece") ∈ GW := gw_1 (List.mem_of_getElem? (i := 10) rfl) rfl
theorem g_11 : (Cond.initialized "java/util/Arrays") ∈ GW := gw_1 (List.mem_of_getElem? (i := 11) rfl) rfl
theorem g_12 : (Cond.initialized "java/lang/System") ∈ GW := gw_1 (List.mem_of_getElem? (i := 12) rfl) rfl
theorem g_13 : (Cond.initialized "java/lang/IndexOutOfBoundsException") ∈ GW := gw_1 (List.mem_of_getElem? (i := 13) rfl) rfl
theorem g_14 : (Cond.initialized "LathePieces$Nose") ∈ GW := gw_1 (List.mem_of_getElem? (i := 14) rfl) rfl
theorem g_15 : (Cond.initialized "LathePieces$Reach") ∈ GW := gw_1 (List.mem_of_getElem? (i := 15) rfl) rfl
theorem g_16 : (Cond.initialized "LathePieces$Ring") ∈ GW := gw_1 (List.mem_of_getElem? (i := 16) rfl) rfl
theorem g_17 : (Cond.classLink "LathePiecesLaw" 8 "LathePieces") ∈ GW := gw_1 (List.mem_of_getElem? (i := 17) rfl) rfl
theorem g_18 : (Cond.instantiable "LathePieces" 13) ∈ GW := gw_1 (List.mem_of_getElem? (i := 18) rfl) rfl
theorem g_19 : (Cond.methodLink "LathePiecesLaw" 103 ⟨"LathePieces", "<init>", "()V"⟩) ∈ GW := gw_1 (List.mem_of_getElem? (i := 19) rfl) rfl
theorem g_20 : (Cond.instanceMethod ⟨"LathePieces", "<init>", "()V"⟩) ∈ GW := gw_1 (List.mem_of_getElem? (i := 20) rfl) rfl
theorem g_21 : (Cond.code ⟨"LathePieces", "<init>", "()V"⟩ prog_1_method_1_code 1 (Option.none : Option FieldType)) ∈ GW := gw_1 (List.mem_of_getElem? (i := 21) rfl) rfl
theorem g_22 : (Cond.methodLink "LathePieces" 1 ⟨"java/lang/Object", "<init>", "()V"⟩) ∈ GW := gw_1 (List.mem_of_getElem? (i := 22) rfl) rfl
theorem g_23 : (Cond.instanceMethod ⟨"java/lang/Object", "<init>", "()V"⟩) ∈ GW := gw_1 (List.mem_of_getElem? (i := 23) rfl) rfl
theorem g_24 : (Cond.code ⟨"java/lang/Object", "<init>", "()V"⟩ object_method_1_code 1 (Option.none : Option FieldType)) ∈ GW := gw_1 (List.mem_of_getElem? (i := 24) rfl) rfl
theorem g_25 : (Cond.classLink "LathePieces" 7 "LathePieces$Profile") ∈ GW := gw_1 (List.mem_of_getElem? (i := 25) rfl) rfl
theorem g_26 : (Cond.instantiable "LathePieces$Profile" 5) ∈ GW := gw_1 (List.mem_of_getElem? (i := 26) rfl) rfl
theorem g_27 : (Cond.methodLinkNest "LathePieces" 9 ⟨"LathePieces$Profile", "<init>", "()V"⟩ "LathePieces") ∈ lw_tbl := tb_1 (List.mem_of_getElem? (i := 27) rfl)
theorem g_28 : (Cond.instanceMethod ⟨"LathePieces$Profile", "<init>", "()V"⟩) ∈ GW := gw_1 (List.mem_of_getElem? (i := 28) rfl) rfl
theorem g_29 : (Cond.code ⟨"LathePieces$Profile", "<init>", "()V"⟩ prog_4_method_1_code 1 (Option.none : Option FieldType)) ∈ GW := gw_1 (List.mem_of_getElem? (i := 29) rfl) rfl
theorem g_30 : (Cond.methodLink "LathePieces$Profile" 3 ⟨"java/lang/Object", "<init>", "()V"⟩) ∈ GW := gw_1 (List.mem_of_getElem? (i := 30) rfl) rfl
theorem g_31 : (Cond.fieldLink "LathePieces$Piece" 9 "LathePieces$Profile" "radii" "[I") ∈ GW := gw_1 (List.mem_of_getElem? (i := 31) rfl) rfl
theorem g_32 : (Cond.fieldLink "LathePieces$Profile" 9 "LathePieces$Profile" "radii" "[I") ∈ GW := gw_1 (List.mem_of_getElem? (i := 32) rfl) rfl
theorem g_33 : (Cond.fieldLink "LathePieces$Profile" 15 "LathePieces$Profile" "begun" "Z") ∈ GW := gw_1 (List.mem_of_getElem? (i := 33) rfl) rfl
theorem g_34 : (Cond.fieldLink "LathePieces" 255 "LathePieces$Profile" "begun" "Z") ∈ GW := gw_1 (List.mem_of_getElem? (i := 34) rfl) rfl
theorem g_35 : (Cond.fieldLink "LathePieces$Piece" 15 "LathePieces$Profile" "last" "I") ∈ GW := gw_1 (List.mem_of_getElem? (i := 35) rfl) rfl
theorem g_36 : (Cond.fieldLink "LathePieces$Profile" 19 "LathePieces$Profile" "last" "I") ∈ GW := gw_1 (List.mem_of_getElem? (i := 36) rfl) rfl
theorem g_37 : (Cond.fieldLink "LathePieces" 261 "LathePieces$Profile" "last" "I") ∈ GW := gw_1 (List.mem_of_getElem? (i := 37) rfl) rfl
theorem g_38 : (Cond.fieldLink "LathePieces$Profile" 23 "LathePieces$Profile" "lastRadius" "I") ∈ GW := gw_1 (List.mem_of_getElem? (i := 38) rfl) rfl
theorem g_39 : (Cond.fieldLink "LathePieces$Piece" 31 "LathePieces$Profile" "ways" "I") ∈ GW := gw_1 (List.mem_of_getElem? (i := 39) rfl) rfl
theorem g_40 : (Cond.fieldLink "LathePieces$Profile" 26 "LathePieces$Profile" "ways" "I") ∈ GW := gw_1 (List.mem_of_getElem? (i := 40) rfl) rfl
theorem g_41 : (Cond.fieldLink "LathePieces" 65 "LathePieces$Profile" "ways" "I") ∈ GW := gw_1 (List.mem_of_getElem? (i := 41) rfl) rfl
theorem g_42 : (Cond.laysFinal "LathePieces$Profile" "LathePieces$Profile" "radii" "[I") ∈ GW := gw_1 (List.mem_of_getElem? (i := 42) rfl) rfl
theorem g_43 : (Cond.soleField "LathePieces$Profile" "radii") ∈ GW := gw_1 (List.mem_of_getElem? (i := 43) rfl) rfl
theorem g_44 : (Cond.lays "LathePieces$Profile" "LathePieces$Profile" "begun" "Z") ∈ GW := gw_1 (List.mem_of_getElem? (i := 44) rfl) rfl
theorem g_45 : (Cond.soleField "LathePieces$Profile" "begun") ∈ GW := gw_1 (List.mem_of_getElem? (i := 45) rfl) rfl
theorem g_46 : (Cond.lays "LathePieces$Profile" "LathePieces$Profile" "last" "I") ∈ GW := gw_1 (List.mem_of_getElem? (i := 46) rfl) rfl
theorem g_47 : (Cond.soleField "LathePieces$Profile" "last") ∈ GW := gw_1 (List.mem_of_getElem? (i := 47) rfl) rfl
theorem g_48 : (Cond.lays "LathePieces$Profile" "LathePieces$Profile" "lastRadius" "I") ∈ GW := gw_1 (List.mem_of_getElem? (i := 48) rfl) rfl
theorem g_49 : (Cond.soleField "LathePieces$Profile" "lastRadius") ∈ GW := gw_1 (List.mem_of_getElem? (i := 49) rfl) rfl
theorem g_50 : (Cond.lays "LathePieces$Profile" "LathePieces$Profile" "ways" "I") ∈ GW := gw_1 (List.mem_of_getElem? (i := 50) rfl) rfl
theorem g_51 : (Cond.soleField "LathePieces$Profile" "ways") ∈ GW := gw_1 (List.mem_of_getElem? (i := 51) rfl) rfl
theorem g_52 : (Cond.superclass "LathePieces$Profile" "java/lang/Object") ∈ GW := gw_1 (List.mem_of_getElem? (i := 52) rfl) rfl
theorem g_53 : (Cond.arrayClass FieldType.int) ∈ GW := gw_1 (List.mem_of_getElem? (i := 53) rfl) rfl
theorem g_54 : (Cond.classLink "LathePieces" 16 "LathePieces$Piece") ∈ GW := gw_1 (List.mem_of_getElem? (i := 54) rfl) rfl
theorem g_55 : (Cond.arrayOver (FieldType.object "LathePieces$Piece")) ∈ lw_tbl := tb_1 (List.mem_of_getElem? (i := 55) rfl)
theorem g_56 : (Cond.classLink "LathePieces" 22 "LathePieces$Nose") ∈ GW := gw_1 (List.mem_of_getElem? (i := 56) rfl) rfl
theorem g_57 : (Cond.arrayOver (FieldType.object "LathePieces$Nose")) ∈ lw_tbl := tb_1 (List.mem_of_getElem? (i := 57) rfl)
theorem g_58 : (Cond.classLink "LathePieces" 28 "LathePieces$Reach") ∈ GW := gw_1 (List.mem_of_getElem? (i := 58) rfl) rfl
theorem g_59 : (Cond.arrayOver (FieldType.object "LathePieces$Reach")) ∈ lw_tbl := tb_1 (List.mem_of_getElem? (i := 59) rfl)
theorem g_60 : (Cond.classLink "LathePieces" 34 "LathePieces$Ring") ∈ GW := gw_1 (List.mem_of_getElem? (i := 60) rfl) rfl
theorem g_61 : (Cond.arrayOver (FieldType.object "LathePieces$Ring")) ∈ lw_tbl := tb_1 (List.mem_of_getElem? (i := 61) rfl)
theorem g_62 : (Cond.fieldLink "LathePieces" 10 "LathePieces" "profile" "LLathePieces$Profile;") ∈ GW := gw_1 (List.mem_of_getElem? (i := 62) rfl) rfl
theorem g_63 : (Cond.fieldLink "LathePieces" 18 "LathePieces" "pieces" "[LLathePieces$Piece;") ∈ GW := gw_1 (List.mem_of_getElem? (i := 63) rfl) rfl
theorem g_64 : (Cond.fieldLink "LathePieces" 77 "LathePieces" "pieceCount" "I") ∈ GW := gw_1 (List.mem_of_getElem? (i := 64) rfl) rfl
theorem g_65 : (Cond.fieldLink "LathePieces" 24 "LathePieces" "noses" "[LLathePieces$Nose;") ∈ GW := gw_1 (List.mem_of_getElem? (i := 65) rfl) rfl
theorem g_66 : (Cond.fieldLink "LathePieces" 110 "LathePieces" "noseCount" "I") ∈ GW := gw_1 (List.mem_of_getElem? (i := 66) rfl) rfl
theorem g_67 : (Cond.fieldLink "LathePieces" 30 "LathePieces" "reaches" "[LLathePieces$Reach;") ∈ GW := gw_1 (List.mem_of_getElem? (i := 67) rfl) rfl
theorem g_68 : (Cond.fieldLink "LathePieces" 36 "LathePieces" "rings" "[LLathePieces$Ring;") ∈ GW := gw_1 (List.mem_of_getElem? (i := 68) rfl) rfl
theorem g_69 : (Cond.fieldLink "LathePieces" 175 "LathePieces" "ringCount" "I") ∈ GW := gw_1 (List.mem_of_getElem? (i := 69) rfl) rfl
theorem g_70 : (Cond.fieldLink "LathePieces" 40 "LathePieces" "rowRadii" "[I") ∈ GW := gw_1 (List.mem_of_getElem? (i := 70) rfl) rfl
theorem g_71 : (Cond.fieldLink "LathePieces" 44 "LathePieces" "rowTurns" "[I") ∈ GW := gw_1 (List.mem_of_getElem? (i := 71) rfl) rfl
theorem g_72 : (Cond.fieldLink "LathePieces" 227 "LathePieces" "rowCount" "I") ∈ GW := gw_1 (List.mem_of_getElem? (i := 72) rfl) rfl
theorem g_73 : (Cond.fieldLink "LathePieces" 218 "LathePieces" "pitchAbove" "I") ∈ GW := gw_1 (List.mem_of_getElem? (i := 73) rfl) rfl
theorem g_74 : (Cond.fieldLink "LathePieces" 221 "LathePieces" "pitchBelow" "I") ∈ GW := gw_1 (List.mem_of_getElem? (i := 74) rfl) rfl
theorem g_75 : (Cond.laysFinal "LathePieces" "LathePieces" "profile" "LLathePieces$Profile;") ∈ GW := gw_1 (List.mem_of_getElem? (i := 75) rfl) rfl
theorem g_76 : (Cond.soleField "LathePieces" "profile") ∈ GW := gw_1 (List.mem_of_getElem? (i := 76) rfl) rfl
theorem g_77 : (Cond.laysFinal "LathePieces" "LathePieces" "pieces" "[LLathePieces$Piece;") ∈ GW := gw_1 (List.mem_of_getElem? (i := 77) rfl) rfl
theorem g_78 : (Cond.soleField "LathePieces" "pieces") ∈ GW := gw_1 (List.mem_of_getElem? (i := 78) rfl) rfl
theorem g_79 : (Cond.lays "LathePieces" "LathePieces" "pieceCount" "I") ∈ GW := gw_1 (List.mem_of_getElem? (i := 79) rfl) rfl
theorem g_80 : (Cond.soleField "LathePieces" "pieceCount") ∈ GW := gw_1 (List.mem_of_getElem? (i := 80) rfl) rfl
theorem g_81 : (Cond.laysFinal "LathePieces" "LathePieces" "noses" "[LLathePieces$Nose;") ∈ GW := gw_1 (List.mem_of_getElem? (i := 81) rfl) rfl
theorem g_82 : (Cond.soleField "LathePieces" "noses") ∈ GW := gw_1 (List.mem_of_getElem? (i := 82) rfl) rfl
theorem g_83 : (Cond.lays "LathePieces" "LathePieces" "noseCount" "I") ∈ GW := gw_1 (List.mem_of_getElem? (i := 83) rfl) rfl
theorem g_84 : (Cond.soleField "LathePieces" "noseCount") ∈ GW := gw_1 (List.mem_of_getElem? (i := 84) rfl) rfl
theorem g_85 : (Cond.laysFinal "LathePieces" "LathePieces" "reaches" "[LLathePieces$Reach;") ∈ GW := gw_1 (List.mem_of_getElem? (i := 85) rfl) rfl
theorem g_86 : (Cond.soleField "LathePieces" "reaches") ∈ GW := gw_1 (List.mem_of_getElem? (i := 86) rfl) rfl
theorem g_87 : (Cond.laysFinal "LathePieces" "LathePieces" "rings" "[LLathePieces$Ring;") ∈ GW := gw_1 (List.mem_of_getElem? (i := 87) rfl) rfl
theorem g_88 : (Cond.soleField "LathePieces" "rings") ∈ GW := gw_1 (List.mem_of_getElem? (i := 88) rfl) rfl
theorem g_89 : (Cond.lays "LathePieces" "LathePieces" "ringCount" "I") ∈ GW := gw_1 (List.mem_of_getElem? (i := 89) rfl) rfl
theorem g_90 : (Cond.soleField "LathePieces" "ringCount") ∈ GW := gw_1 (List.mem_of_getElem? (i := 90) rfl) rfl
theorem g_91 : (Cond.laysFinal "LathePieces" "LathePieces" "rowRadii" "[I") ∈ GW := gw_1 (List.mem_of_getElem? (i := 91) rfl) rfl
theorem g_92 : (Cond.soleField "LathePieces" "rowRadii") ∈ GW := gw_1 (List.mem_of_getElem? (i := 92) rfl) rfl
theorem g_93 : (Cond.laysFinal "LathePieces" "LathePieces" "rowTurns" "[I") ∈ GW := gw_1 (List.mem_of_getElem? (i := 93) rfl) rfl
theorem g_94 : (Cond.soleField "LathePieces" "rowTurns") ∈ GW := gw_1 (List.mem_of_getElem? (i := 94) rfl) rfl
theorem g_95 : (Cond.lays "LathePieces" "LathePieces" "rowCount" "I") ∈ GW := gw_1 (List.mem_of_getElem? (i := 95) rfl) rfl
theorem g_96 : (Cond.soleField "LathePieces" "rowCount") ∈ GW := gw_1 (List.mem_of_getElem? (i := 96) rfl) rfl
theorem g_97 : (Cond.lays "LathePieces" "LathePieces" "pitchAbove" "I") ∈ GW := gw_1 (List.mem_of_getElem? (i := 97) rfl) rfl
theorem g_98 : (Cond.soleField "LathePieces" "pitchAbove") ∈ GW := gw_1 (List.mem_of_getElem? (i := 98) rfl) rfl
theorem g_99 : (Cond.lays "LathePieces" "LathePieces" "pitchBelow" "I") ∈ GW := gw_1 (List.mem_of_getElem? (i := 99) rfl) rfl
theorem g_100 : (Cond.soleField "LathePieces" "pitchBelow") ∈ GW := gw_1 (List.mem_of_getElem? (i := 100) rfl) rfl
theorem g_101 : (Cond.superclass "LathePieces" "java/lang/Object") ∈ GW := gw_1 (List.mem_of_getElem? (i := 101) rfl) rfl
theorem g_102 : (Cond.methodLink "LathePiecesLaw" 107 ⟨"LathePiecesLaw", "start", "(LLathePieces;I)I"⟩) ∈ GW := gw_1 (List.mem_of_getElem? (i := 102) rfl) rfl
theorem g_103 : (Cond.static ⟨"LathePiecesLaw", "start", "(LLathePieces;I)I"⟩) ∈ GW := gw_1 (List.mem_of_getElem? (i := 103) rfl) rfl
theorem g_104 : (Cond.codeWith ⟨"LathePiecesLaw", "start", "(LLathePieces;I)I"⟩ method_3_code 3 (Option.some FieldType.int) [(0, 5, 8, 13)]) ∈ GW := gw_1 (List.mem_of_getElem? (i := 104) rfl) rfl
theorem g_105 : (Cond.classLink "LathePiecesLaw" 13 "java/lang/IllegalArgumentException") ∈ GW := gw_1 (List.mem_of_getElem? (i := 105) rfl) rfl
theorem g_106 : (Cond.methodLink "LathePiecesLaw" 7 ⟨"LathePieces", "start", "(I)V"⟩) ∈ GW := gw_1 (List.mem_of_getElem? (i := 106) rfl) rfl
theorem g_107 : (Cond.instanceMethod ⟨"LathePieces", "start", "(I)V"⟩) ∈ GW := gw_1 (List.mem_of_getElem? (i := 107) rfl) rfl
theorem g_108 : (Cond.selects "LathePieces" ⟨"LathePieces", "start", "(I)V"⟩ ⟨"LathePieces", "start", "(I)V"⟩) ∈ GW := gw_1 (List.mem_of_getElem? (i := 108) rfl) rfl
theorem g_109 : (Cond.code ⟨"LathePieces", "start", "(I)V"⟩ prog_1_method_2_code 2 (Option.none : Option FieldType)) ∈ GW := gw_1 (List.mem_of_getElem? (i := 109) rfl) rfl
theorem g_110 : (Cond.methodLink "LathePieces" 47 ⟨"LathePieces", "checkNumber", "(III)V"⟩) ∈ GW := gw_1 (List.mem_of_getElem? (i := 110) rfl) rfl
theorem g_111 : (Cond.static ⟨"LathePieces", "checkNumber", "(III)V"⟩) ∈ GW := gw_1 (List.mem_of_getElem? (i := 111) rfl) rfl
theorem g_112 : (Cond.code ⟨"LathePieces", "checkNumber", "(III)V"⟩ prog_1_method_35_code 3 (Option.none : Option FieldType)) ∈ GW := gw_1 (List.mem_of_getElem? (i := 112) rfl) rfl
theorem g_113 : (Cond.classLink "LathePieces" 230 "java/lang/IllegalArgumentException") ∈ GW := gw_1 (List.mem_of_getElem? (i := 113) rfl) rfl
theorem g_114 : (Cond.instantiable "java/lang/IllegalArgumentException" 6) ∈ GW := gw_1 (List.mem_of_getElem? (i := 114) rfl) rfl
theorem g_115 : (Cond.castable "java/lang/IllegalArgumentException" "java/lang/IllegalArgumentException") ∈ lw_tbl := tb_1 (List.mem_of_getElem? (i := 115) rfl)
theorem g_116 : (Cond.declares ⟨"java/lang/RuntimeException", "<init>", "()V"⟩) ∈ lw_tbl := tb_1 (List.mem_of_getElem? (i := 116) rfl)
theorem g_117 : (Cond.declares ⟨"java/lang/RuntimeException", "<init>", "(Ljava/lang/String;)V"⟩) ∈ lw_tbl := tb_1 (List.mem_of_getElem? (i := 117) rfl)
theorem g_118 : (Cond.declares ⟨"java/lang/Exception", "<init>", "()V"⟩) ∈ lw_tbl := tb_1 (List.mem_of_getElem? (i := 118) rfl)
theorem g_119 : (Cond.declares ⟨"java/lang/Exception", "<init>", "(Ljava/lang/String;)V"⟩) ∈ lw_tbl := tb_1 (List.mem_of_getElem? (i := 119) rfl)
theorem g_120 : (Cond.declares ⟨"java/lang/Throwable", "<init>", "()V"⟩) ∈ lw_tbl := tb_1 (List.mem_of_getElem? (i := 120) rfl)
theorem g_121 : (Cond.declares ⟨"java/lang/Throwable", "<init>", "(Ljava/lang/String;)V"⟩) ∈ lw_tbl := tb_1 (List.mem_of_getElem? (i := 121) rfl)
theorem g_122 : (Cond.selects "java/lang/IllegalArgumentException" ⟨"java/lang/Throwable", "fillInStackTrace", "(I)Ljava/lang/Throwable;"⟩ ⟨"java/lang/Throwable", "fillInStackTrace", "(I)Ljava/lang/Throwable;"⟩) ∈ GW := gw_1 (List.mem_of_getElem? (i := 122) rfl) rfl
theorem g_123 : (Cond.selects "java/lang/IllegalArgumentException" ⟨"java/lang/Throwable", "fillInStackTrace", "()Ljava/lang/Throwable;"⟩ ⟨"java/lang/Throwable", "fillInStackTrace", "()Ljava/lang/Throwable;"⟩) ∈ GW := gw_1 (List.mem_of_getElem? (i := 123) rfl) rfl
theorem g_124 : (Cond.lays "java/lang/IllegalArgumentException" "java/lang/Throwable" "cause" "Ljava/lang/Throwable;") ∈ GW := gw_1 (List.mem_of_getElem? (i := 124) rfl) rfl
theorem g_125 : (Cond.lays "java/lang/Throwable" "java/lang/Throwable" "cause" "Ljava/lang/Throwable;") ∈ GW := gw_1 (List.mem_of_getElem? (i := 125) rfl) rfl
theorem g_126 : (Cond.lays "java/lang/IllegalArgumentException" "java/lang/Throwable" "stackTrace" "[Ljava/lang/StackTraceElement;") ∈ GW := gw_1 (List.mem_of_getElem? (i := 126) rfl) rfl
theorem g_127 : (Cond.lays "java/lang/Throwable" "java/lang/Throwable" "stackTrace" "[Ljava/lang/StackTraceElement;") ∈ GW := gw_1 (List.mem_of_getElem? (i := 127) rfl) rfl
theorem g_128 : (Cond.lays "java/lang/IllegalArgumentException" "java/lang/Throwable" "suppressedExceptions" "Ljava/util/List;") ∈ GW := gw_1 (List.mem_of_getElem? (i := 128) rfl) rfl
theorem g_129 : (Cond.lays "java/lang/Throwable" "java/lang/Throwable" "suppressedExceptions" "Ljava/util/List;") ∈ GW := gw_1 (List.mem_of_getElem? (i := 129) rfl) rfl
theorem g_130 : (Cond.lays "java/lang/IllegalArgumentException" "java/lang/Throwable" "detailMessage" "Ljava/lang/String;") ∈ GW := gw_1 (List.mem_of_getElem? (i := 130) rfl) rfl
theorem g_131 : (Cond.lays "java/lang/Throwable" "java/lang/Throwable" "detailMessage" "Ljava/lang/String;") ∈ GW := gw_1 (List.mem_of_getElem? (i := 131) rfl) rfl
theorem g_132 : (Cond.lays "java/lang/IllegalArgumentException" "java/lang/Throwable" "backtrace" "Ljava/lang/Object;") ∈ GW := gw_1 (List.mem_of_getElem? (i := 132) rfl) rfl
theorem g_133 : (Cond.lays "java/lang/Throwable" "java/lang/Throwable" "backtrace" "Ljava/lang/Object;") ∈ GW := gw_1 (List.mem_of_getElem? (i := 133) rfl) rfl
theorem g_134 : (Cond.fieldLink "java/lang/Throwable" 198 "java/lang/Throwable" "backtrace" "Ljava/lang/Object;") ∈ GW := gw_1 (List.mem_of_getElem? (i := 134) rfl) rfl
theorem g_135 : (Cond.superclass "java/lang/Throwable" "java/lang/Object") ∈ GW := gw_1 (List.mem_of_getElem? (i := 135) rfl) rfl
theorem g_136 : (Cond.instanceMethod ⟨"java/lang/Throwable", "<init>", "()V"⟩) ∈ GW := gw_1 (List.mem_of_getElem? (i := 136) rfl) rfl
theorem g_137 : (Cond.code ⟨"java/lang/Throwable", "<init>", "()V"⟩ prog_18_method_1_code 1 (Option.none : Option FieldType)) ∈ GW := gw_1 (List.mem_of_getElem? (i := 137) rfl) rfl
theorem g_138 : (Cond.methodLink "java/lang/Throwable" 1 ⟨"java/lang/Object", "<init>", "()V"⟩) ∈ GW := gw_1 (List.mem_of_getElem? (i := 138) rfl) rfl
theorem g_139 : (Cond.fieldLink "java/lang/Throwable" 13 "java/lang/Throwable" "UNASSIGNED_STACK" "[Ljava/lang/StackTraceElement;") ∈ GW := gw_1 (List.mem_of_getElem? (i := 139) rfl) rfl
theorem g_140 : (Cond.laysStatic "java/lang/Throwable" "UNASSIGNED_STACK" "[Ljava/lang/StackTraceElement;") ∈ lw_tbl := tb_1 (List.mem_of_getElem? (i := 140) rfl)
theorem g_141 : (Cond.fieldLink "java/lang/Throwable" 20 "java/lang/Throwable" "SUPPRESSED_SENTINEL" "Ljava/util/List;") ∈ GW := gw_1 (List.mem_of_getElem? (i := 141) rfl) rfl
theorem g_142 : (Cond.laysStatic "java/lang/Throwable" "SUPPRESSED_SENTINEL" "Ljava/util/List;") ∈ lw_tbl := tb_1 (List.mem_of_getElem? (i := 142) rfl)
theorem g_143 : (Cond.methodLink "java/lang/Throwable" 27 ⟨"java/lang/Throwable", "fillInStackTrace", "()Ljava/lang/Throwable;"⟩) ∈ GW := gw_1 (List.mem_of_getElem? (i := 143) rfl) rfl
theorem g_144 : (Cond.instanceMethod ⟨"java/lang/Throwable", "fillInStackTrace", "()Ljava/lang/Throwable;"⟩) ∈ GW := gw_1 (List.mem_of_getElem? (i := 144) rfl) rfl
theorem g_145 : (Cond.sameMethod "java/lang/Throwable" "java/lang/Throwable" "fillInStackTrace" "()Ljava/lang/Throwable;") ∈ GW := gw_1 (List.mem_of_getElem? (i := 145) rfl) rfl
theorem g_146 : (Cond.selects "java/lang/IllegalStateException" ⟨"java/lang/Throwable", "fillInStackTrace", "()Ljava/lang/Throwable;"⟩ ⟨"java/lang/Throwable", "fillInStackTrace", "()Ljava/lang/Throwable;"⟩) ∈ GW := gw_1 (List.mem_of_getElem? (i := 146) rfl) rfl
theorem g_147 : (Cond.selects "java/lang/IndexOutOfBoundsException" ⟨"java/lang/Throwable", "fillInStackTrace", "()Ljava/lang/Throwable;"⟩ ⟨"java/lang/Throwable", "fillInStackTrace", "()Ljava/lang/Throwable;"⟩) ∈ GW := gw_1 (List.mem_of_getElem? (i := 147) rfl) rfl
theorem g_148 : (Cond.codeSync ⟨"java/lang/Throwable", "fillInStackTrace", "()Ljava/lang/Throwable;"⟩ prog_18_method_18_code 1 (Option.some (FieldType.object "java/lang/Throwable"))) ∈ GW := gw_1 (List.mem_of_getElem? (i := 148) rfl) rfl
theorem g_149 : (Cond.methodLink "java/lang/Throwable" 202 ⟨"java/lang/Throwable", "fillInStackTrace", "(I)Ljava/lang/Throwable;"⟩) ∈ GW := gw_1 (List.mem_of_getElem? (i := 149) rfl) rfl
theorem g_150 : (Cond.privateMethod ⟨"java/lang/Throwable", "fillInStackTrace", "(I)Ljava/lang/Throwable;"⟩) ∈ lw_tbl := tb_1 (List.mem_of_getElem? (i := 150) rfl)
theorem g_151 : (Cond.instanceMethod ⟨"java/lang/Throwable", "fillInStackTrace", "(I)Ljava/lang/Throwable;"⟩) ∈ GW := gw_1 (List.mem_of_getElem? (i := 151) rfl) rfl
theorem g_152 : (Cond.instantiable "java/lang/Throwable" 6) ∈ GW := gw_1 (List.mem_of_getElem? (i := 152) rfl) rfl
theorem g_153 : (Cond.native ⟨"java/lang/Throwable", "fillInStackTrace", "(I)Ljava/lang/Throwable;"⟩) ∈ GW := gw_1 (List.mem_of_getElem? (i := 153) rfl) rfl
theorem g_154 : (Cond.stringRef "LathePieces" 266 "a number is not as said") ∈ lw_tbl := tb_1 (List.mem_of_getElem? (i := 154) rfl)
theorem g_155 : (Cond.methodLink "LathePieces" 234 ⟨"java/lang/IllegalArgumentException", "<init>", "(Ljava/lang/String;)V"⟩) ∈ GW := gw_1 (List.mem_of_getElem? (i := 155) rfl) rfl
theorem g_156 : (Cond.instanceMethod ⟨"java/lang/IllegalArgumentException", "<init>", "(Ljava/lang/String;)V"⟩) ∈ GW := gw_1 (List.mem_of_getElem? (i := 156) rfl) rfl
theorem g_157 : (Cond.code ⟨"java/lang/IllegalArgumentException", "<init>", "(Ljava/lang/String;)V"⟩ prog_11_method_2_code 2 (Option.none : Option FieldType)) ∈ GW := gw_1 (List.mem_of_getElem? (i := 157) rfl) rfl
theorem g_158 : (Cond.methodLink "java/lang/IllegalArgumentException" 7 ⟨"java/lang/RuntimeException", "<init>", "(Ljava/lang/String;)V"⟩) ∈ GW := gw_1 (List.mem_of_getElem? (i := 158) rfl) rfl
theorem g_159 : (Cond.instanceMethod ⟨"java/lang/RuntimeException", "<init>", "(Ljava/lang/String;)V"⟩) ∈ GW := gw_1 (List.mem_of_getElem? (i := 159) rfl) rfl
theorem g_160 : (Cond.code ⟨"java/lang/RuntimeException", "<init>", "(Ljava/lang/String;)V"⟩ prog_15_method_2_code 2 (Option.none : Option FieldType)) ∈ GW := gw_1 (List.mem_of_getElem? (i := 160) rfl) rfl
theorem g_161 : (Cond.methodLink "java/lang/RuntimeException" 7 ⟨"java/lang/Exception", "<init>", "(Ljava/lang/String;)V"⟩) ∈ GW := gw_1 (List.mem_of_getElem? (i := 161) rfl) rfl
theorem g_162 : (Cond.instanceMethod ⟨"java/lang/Exception", "<init>", "(Ljava/lang/String;)V"⟩) ∈ GW := gw_1 (List.mem_of_getElem? (i := 162) rfl) rfl
theorem g_163 : (Cond.code ⟨"java/lang/Exception", "<init>", "(Ljava/lang/String;)V"⟩ prog_10_method_2_code 2 (Option.none : Option FieldType)) ∈ GW := gw_1 (List.mem_of_getElem? (i := 163) rfl) rfl
theorem g_164 : (Cond.methodLink "java/lang/Exception" 7 ⟨"java/lang/Throwable", "<init>", "(Ljava/lang/String;)V"⟩) ∈ GW := gw_1 (List.mem_of_getElem? (i := 164) rfl) rfl
theorem g_165 : (Cond.instanceMethod ⟨"java/lang/Throwable", "<init>", "(Ljava/lang/String;)V"⟩) ∈ GW := gw_1 (List.mem_of_getElem? (i := 165) rfl) rfl
theorem g_166 : (Cond.code ⟨"java/lang/Throwable", "<init>", "(Ljava/lang/String;)V"⟩ prog_18_method_2_code 2 (Option.none : Option FieldType)) ∈ GW := gw_1 (List.mem_of_getElem? (i := 166) rfl) rfl
theorem g_167 : (Cond.fieldLink "java/lang/Throwable" 198 "java/lang/Throwable" "backtrace" "Ljava/lang/Object;") ∈ GW := gw_1 (List.mem_of_getElem? (i := 167) rfl) rfl
theorem g_168 : (Cond.fieldLink "java/lang/Throwable" 31 "java/lang/Throwable" "detailMessage" "Ljava/lang/String;") ∈ GW := gw_1 (List.mem_of_getElem? (i := 168) rfl) rfl
theorem g_169 : (Cond.fieldLink "java/lang/Throwable" 7 "java/lang/Throwable" "cause" "Ljava/lang/Throwable;") ∈ GW := gw_1 (List.mem_of_getElem? (i := 169) rfl) rfl
theorem g_170 : (Cond.fieldLink "java/lang/Throwable" 17 "java/lang/Throwable" "stackTrace" "[Ljava/lang/StackTraceElement;") ∈ GW := gw_1 (List.mem_of_getElem? (i := 170) rfl) rfl
theorem g_171 : (Cond.fieldLink "java/lang/Throwable" 24 "java/lang/Throwable" "suppressedExceptions" "Ljava/util/List;") ∈ GW := gw_1 (List.mem_of_getElem? (i := 171) rfl) rfl
theorem g_172 : (Cond.soleField "java/lang/Throwable" "backtrace") ∈ GW := gw_1 (List.mem_of_getElem? (i := 172) rfl) rfl
theorem g_173 : (Cond.soleField "java/lang/Throwable" "detailMessage") ∈ GW := gw_1 (List.mem_of_getElem? (i := 173) rfl) rfl
theorem g_174 : (Cond.soleField "java/lang/Throwable" "cause") ∈ GW := gw_1 (List.mem_of_getElem? (i := 174) rfl) rfl
theorem g_175 : (Cond.soleField "java/lang/Throwable" "stackTrace") ∈ GW := gw_1 (List.mem_of_getElem? (i := 175) rfl) rfl
theorem g_176 : (Cond.lays "java/lang/IllegalArgumentException" "java/lang/Throwable" "depth" "I") ∈ GW := gw_1 (List.mem_of_getElem? (i := 176) rfl) rfl
theorem g_177 : (Cond.soleField "java/lang/Throwable" "depth") ∈ GW := gw_1 (List.mem_of_getElem? (i := 177) rfl) rfl
theorem g_178 : (Cond.soleField "java/lang/Throwable" "suppressedExceptions") ∈ GW := gw_1 (List.mem_of_getElem? (i := 178) rfl) rfl
theorem g_179 : (Cond.superclass "java/lang/IllegalArgumentException" "java/lang/RuntimeException") ∈ GW := gw_1 (List.mem_of_getElem? (i := 179) rfl) rfl
theorem g_180 : (Cond.arrayClass FieldType.byte) ∈ GW := gw_1 (List.mem_of_getElem? (i := 180) rfl) rfl
theorem g_181 : (Cond.methodLink "LathePieces" 51 ⟨"LathePieces$Profile", "begin", "(I)V"⟩) ∈ GW := gw_1 (List.mem_of_getElem? (i := 181) rfl) rfl
theorem g_182 : (Cond.instanceMethod ⟨"LathePieces$Profile", "begin", "(I)V"⟩) ∈ GW := gw_1 (List.mem_of_getElem? (i := 182) rfl) rfl
theorem g_183 : (Cond.selects "LathePieces$Profile" ⟨"LathePieces$Profile", "begin", "(I)V"⟩ ⟨"LathePieces$Profile", "begin", "(I)V"⟩) ∈ GW := gw_1 (List.mem_of_getElem? (i := 183) rfl) rfl
theorem g_184 : (Cond.code ⟨"LathePieces$Profile", "begin", "(I)V"⟩ prog_4_method_2_code 2 (Option.none : Option FieldType)) ∈ GW := gw_1 (List.mem_of_getElem? (i := 184) rfl) rfl
theorem g_185 : (Cond.methodLink "LathePiecesLaw" 116 ⟨"LathePiecesLaw", "line", "(LLathePieces;II[J)I"⟩) ∈ GW := gw_1 (List.mem_of_getElem? (i := 185) rfl) rfl
theorem g_186 : (Cond.static ⟨"LathePiecesLaw", "line", "(LLathePieces;II[J)I"⟩) ∈ GW := gw_1 (List.mem_of_getElem? (i := 186) rfl) rfl
theorem g_187 : (Cond.codeWith ⟨"LathePiecesLaw", "line", "(LLathePieces;II[J)I"⟩ method_4_code 5 (Option.some FieldType.int) [(0, 10, 13, 13), (0, 10, 17, 19)]) ∈ GW := gw_1 (List.mem_of_getElem? (i := 187) rfl) rfl
theorem g_188 : (Cond.classLink "LathePiecesLaw" 19 "java/lang/IllegalStateException") ∈ GW := gw_1 (List.mem_of_getElem? (i := 188) rfl) rfl
theorem g_189 : (Cond.methodLink "LathePiecesLaw" 15 ⟨"LathePieces", "line", "(II)I"⟩) ∈ GW := gw_1 (List.mem_of_getElem? (i := 189) rfl) rfl
theorem g_190 : (Cond.instanceMethod ⟨"LathePieces", "line", "(II)I"⟩) ∈ GW := gw_1 (List.mem_of_getElem? (i := 190) rfl) rfl
theorem g_191 : (Cond.selects "LathePieces" ⟨"LathePieces", "line", "(II)I"⟩ ⟨"LathePieces", "line", "(II)I"⟩) ∈ GW := gw_1 (List.mem_of_getElem? (i := 191) rfl) rfl
theorem g_192 : (Cond.code ⟨"LathePieces", "line", "(II)I"⟩ prog_1_method_3_code 3 (Option.some FieldType.int)) ∈ GW := gw_1 (List.mem_of_getElem? (i := 192) rfl) rfl
theorem g_193 : (Cond.methodLink "LathePieces" 55 ⟨"LathePieces", "checkWayEnd", "(II)V"⟩) ∈ GW := gw_1 (List.mem_of_getElem? (i := 193) rfl) rfl
theorem g_194 : (Cond.static ⟨"LathePieces", "checkWayEnd", "(II)V"⟩) ∈ GW := gw_1 (List.mem_of_getElem? (i := 194) rfl) rfl
theorem g_195 : (Cond.code ⟨"LathePieces", "checkWayEnd", "(II)V"⟩ prog_1_method_32_code 2 (Option.none : Option FieldType)) ∈ GW := gw_1 (List.mem_of_getElem? (i := 195) rfl) rfl
theorem g_196 : (Cond.methodLink "LathePieces" 59 ⟨"LathePieces", "checkBehindLast", "(I)V"⟩) ∈ GW := gw_1 (List.mem_of_getElem? (i := 196) rfl) rfl
theorem g_197 : (Cond.privateMethod ⟨"LathePieces", "checkBehindLast", "(I)V"⟩) ∈ lw_tbl := tb_1 (List.mem_of_getElem? (i := 197) rfl)
theorem g_198 : (Cond.instanceMethod ⟨"LathePieces", "checkBehindLast", "(I)V"⟩) ∈ GW := gw_1 (List.mem_of_getElem? (i := 198) rfl) rfl
theorem g_199 : (Cond.code ⟨"LathePieces", "checkBehindLast", "(I)V"⟩ prog_1_method_33_code 2 (Option.none : Option FieldType)) ∈ GW := gw_1 (List.mem_of_getElem? (i := 199) rfl) rfl
theorem g_200 : (Cond.classLink "LathePieces" 80 "java/lang/IllegalStateException") ∈ GW := gw_1 (List.mem_of_getElem? (i := 200) rfl) rfl
theorem g_201 : (Cond.instantiable "java/lang/IllegalStateException" 6) ∈ GW := gw_1 (List.mem_of_getElem? (i := 201) rfl) rfl
theorem g_202 : (Cond.castable "java/lang/IllegalStateException" "java/lang/IllegalStateException") ∈ lw_tbl := tb_1 (List.mem_of_getElem? (i := 202) rfl)
theorem g_203 : (Cond.selects "java/lang/IllegalStateException" ⟨"java/lang/Throwable", "fillInStackTrace", "(I)Ljava/lang/Throwable;"⟩ ⟨"java/lang/Throwable", "fillInStackTrace", "(I)Ljava/lang/Throwable;"⟩) ∈ GW := gw_1 (List.mem_of_getElem? (i := 203) rfl) rfl
theorem g_204 : (Cond.lays "java/lang/IllegalStateException" "java/lang/Throwable" "cause" "Ljava/lang/Throwable;") ∈ GW := gw_1 (List.mem_of_getElem? (i := 204) rfl) rfl
theorem g_205 : (Cond.lays "java/lang/IllegalStateException" "java/lang/Throwable" "stackTrace" "[Ljava/lang/StackTraceElement;") ∈ GW := gw_1 (List.mem_of_getElem? (i := 205) rfl) rfl
theorem g_206 : (Cond.lays "java/lang/IllegalStateException" "java/lang/Throwable" "suppressedExceptions" "Ljava/util/List;") ∈ GW := gw_1 (List.mem_of_getElem? (i := 206) rfl) rfl
theorem g_207 : (Cond.lays "java/lang/IllegalStateException" "java/lang/Throwable" "detailMessage" "Ljava/lang/String;") ∈ GW := gw_1 (List.mem_of_getElem? (i := 207) rfl) rfl
theorem g_208 : (Cond.lays "java/lang/IllegalStateException" "java/lang/Throwable" "backtrace" "Ljava/lang/Object;") ∈ GW := gw_1 (List.mem_of_getElem? (i := 208) rfl) rfl
theorem g_209 : (Cond.stringRef "LathePieces" 259 "no profile was begun") ∈ lw_tbl := tb_1 (List.mem_of_getElem? (i := 209) rfl)
theorem g_210 : (Cond.methodLink "LathePieces" 84 ⟨"java/lang/IllegalStateException", "<init>", "(Ljava/lang/String;)V"⟩) ∈ GW := gw_1 (List.mem_of_getElem? (i := 210) rfl) rfl
theorem g_211 : (Cond.instanceMethod ⟨"java/lang/IllegalStateException", "<init>", "(Ljava/lang/String;)V"⟩) ∈ GW := gw_1 (List.mem_of_getElem? (i := 211) rfl) rfl
theorem g_212 : (Cond.code ⟨"java/lang/IllegalStateException", "<init>", "(Ljava/lang/String;)V"⟩ prog_12_method_2_code 2 (Option.none : Option FieldType)) ∈ GW := gw_1 (List.mem_of_getElem? (i := 212) rfl) rfl
theorem g_213 : (Cond.methodLink "java/lang/IllegalStateException" 7 ⟨"java/lang/RuntimeException", "<init>", "(Ljava/lang/String;)V"⟩) ∈ GW := gw_1 (List.mem_of_getElem? (i := 213) rfl) rfl
theorem g_214 : (Cond.lays "java/lang/IllegalStateException" "java/lang/Throwable" "depth" "I") ∈ GW := gw_1 (List.mem_of_getElem? (i := 214) rfl) rfl
theorem g_215 : (Cond.superclass "java/lang/IllegalStateException" "java/lang/RuntimeException") ∈ GW := gw_1 (List.mem_of_getElem? (i := 215) rfl) rfl
theorem g_216 : (Cond.stringRef "LathePieces" 264 "not behind the last place") ∈ lw_tbl := tb_1 (List.mem_of_getElem? (i := 216) rfl)
theorem g_217 : (Cond.methodLink "LathePieces" 62 ⟨"LathePieces$Profile", "addLine", "(II)V"⟩) ∈ GW := gw_1 (List.mem_of_getElem? (i := 217) rfl) rfl
theorem g_218 : (Cond.instanceMethod ⟨"LathePieces$Profile", "addLine", "(II)V"⟩) ∈ GW := gw_1 (List.mem_of_getElem? (i := 218) rfl) rfl
theorem g_219 : (Cond.selects "LathePieces$Profile" ⟨"LathePieces$Profile", "addLine", "(II)V"⟩ ⟨"LathePieces$Profile", "addLine", "(II)V"⟩) ∈ GW := gw_1 (List.mem_of_getElem? (i := 219) rfl) rfl
theorem g_220 : (Cond.code ⟨"LathePieces$Profile", "addLine", "(II)V"⟩ prog_4_method_3_code 5 (Option.none : Option FieldType)) ∈ GW := gw_1 (List.mem_of_getElem? (i := 220) rfl) rfl
theorem g_221 : (Cond.methodLink "LathePieces$Profile" 29 ⟨"java/lang/Math", "floorDiv", "(II)I"⟩) ∈ GW := gw_1 (List.mem_of_getElem? (i := 221) rfl) rfl
theorem g_222 : (Cond.static ⟨"java/lang/Math", "floorDiv", "(II)I"⟩) ∈ GW := gw_1 (List.mem_of_getElem? (i := 222) rfl) rfl
theorem g_223 : (Cond.code ⟨"java/lang/Math", "floorDiv", "(II)I"⟩ prog_14_method_47_code 3 (Option.some FieldType.int)) ∈ GW := gw_1 (List.mem_of_getElem? (i := 223) rfl) rfl
theorem g_224 : (Cond.methodLink "LathePieces$Profile" 35 ⟨"LathePieces$Profile", "goOnFrom", "(II)V"⟩) ∈ GW := gw_1 (List.mem_of_getElem? (i := 224) rfl) rfl
theorem g_225 : (Cond.instanceMethod ⟨"LathePieces$Profile", "goOnFrom", "(II)V"⟩) ∈ GW := gw_1 (List.mem_of_getElem? (i := 225) rfl) rfl
theorem g_226 : (Cond.selects "LathePieces$Profile" ⟨"LathePieces$Profile", "goOnFrom", "(II)V"⟩ ⟨"LathePieces$Profile", "goOnFrom", "(II)V"⟩) ∈ GW := gw_1 (List.mem_of_getElem? (i := 226) rfl) rfl
theorem g_227 : (Cond.code ⟨"LathePieces$Profile", "goOnFrom", "(II)V"⟩ prog_4_method_6_code 3 (Option.none : Option FieldType)) ∈ GW := gw_1 (List.mem_of_getElem? (i := 227) rfl) rfl
theorem g_228 : (Cond.methodLink "LathePiecesLaw" 120 ⟨"LathePiecesLaw", "arc", "(LLathePieces;IIIIZ[J)I"⟩) ∈ GW := gw_1 (List.mem_of_getElem? (i := 228) rfl) rfl
theorem g_229 : (Cond.static ⟨"LathePiecesLaw", "arc", "(LLathePieces;IIIIZ[J)I"⟩) ∈ GW := gw_1 (List.mem_of_getElem? (i := 229) rfl) rfl
theorem g_230 : (Cond.codeWith ⟨"LathePiecesLaw", "arc", "(LLathePieces;IIIIZ[J)I"⟩ method_5_code 8 (Option.some FieldType.int) [(0, 23, 26, 13), (0, 23, 30, 19)]) ∈ GW := gw_1 (List.mem_of_getElem? (i := 230) rfl) rfl
theorem g_231 : (Cond.methodLink "LathePiecesLaw" 21 ⟨"LathePieces", "arc", "(IIIIZ)Z"⟩) ∈ GW := gw_1 (List.mem_of_getElem? (i := 231) rfl) rfl
theorem g_232 : (Cond.instanceMethod ⟨"LathePieces", "arc", "(IIIIZ)Z"⟩) ∈ GW := gw_1 (List.mem_of_getElem? (i := 232) rfl) rfl
theorem g_233 : (Cond.selects "LathePieces" ⟨"LathePieces", "arc", "(IIIIZ)Z"⟩ ⟨"LathePieces", "arc", "(IIIIZ)Z"⟩) ∈ GW := gw_1 (List.mem_of_getElem? (i := 233) rfl) rfl
theorem g_234 : (Cond.code ⟨"LathePieces", "arc", "(IIIIZ)Z"⟩ prog_1_method_4_code 6 (Option.some FieldType.boolean)) ∈ GW := gw_1 (List.mem_of_getElem? (i := 234) rfl) rfl
theorem g_235 : (Cond.methodLink "LathePieces" 69 ⟨"LathePieces$Profile", "arcFits", "(IIIIZ)Z"⟩) ∈ GW := gw_1 (List.mem_of_getElem? (i := 235) rfl) rfl
theorem g_236 : (Cond.instanceMethod ⟨"LathePieces$Profile", "arcFits", "(IIIIZ)Z"⟩) ∈ GW := gw_1 (List.mem_of_getElem? (i := 236) rfl) rfl
theorem g_237 : (Cond.selects "LathePieces$Profile" ⟨"LathePieces$Profile", "arcFits", "(IIIIZ)Z"⟩ ⟨"LathePieces$Profile", "arcFits", "(IIIIZ)Z"⟩) ∈ GW := gw_1 (List.mem_of_getElem? (i := 237) rfl) rfl
theorem g_238 : (Cond.code ⟨"LathePieces$Profile", "arcFits", "(IIIIZ)Z"⟩ prog_4_method_4_code 8 (Option.some FieldType.boolean)) ∈ GW := gw_1 (List.mem_of_getElem? (i := 238) rfl) rfl
theorem g_239 : (Cond.methodLink "LathePieces$Profile" 39 ⟨"LathePieces$Profile", "squareFar", "(II)I"⟩) ∈ GW := gw_1 (List.mem_of_getElem? (i := 239) rfl) rfl
theorem g_240 : (Cond.static ⟨"LathePieces$Profile", "squareFar", "(II)I"⟩) ∈ GW := gw_2 (List.mem_of_getElem? (i := 0) rfl) rfl
theorem g_241 : (Cond.code ⟨"LathePieces$Profile", "squareFar", "(II)I"⟩ prog_4_method_7_code 2 (Option.some FieldType.int)) ∈ GW := gw_2 (List.mem_of_getElem? (i := 1) rfl) rfl
theorem g_242 : (Cond.methodLink "LathePieces" 73 ⟨"LathePieces$Profile", "addArc", "(IIIIZ)V"⟩) ∈ GW := gw_2 (List.mem_of_getElem? (i := 2) rfl) rfl
theorem g_243 : (Cond.instanceMethod ⟨"LathePieces$Profile", "addArc", "(IIIIZ)V"⟩) ∈ GW := gw_2 (List.mem_of_getElem? (i := 3) rfl) rfl
theorem g_244 : (Cond.selects "LathePieces$Profile" ⟨"LathePieces$Profile", "addArc", "(IIIIZ)V"⟩ ⟨"LathePieces$Profile", "addArc", "(IIIIZ)V"⟩) ∈ GW := gw_2 (List.mem_of_getElem? (i := 4) rfl) rfl
theorem g_245 : (Cond.code ⟨"LathePieces$Profile", "addArc", "(IIIIZ)V"⟩ prog_4_method_5_code 9 (Option.none : Option FieldType)) ∈ GW := gw_2 (List.mem_of_getElem? (i := 5) rfl) rfl
theorem g_246 : (Cond.methodLinkNest "LathePieces$Profile" 42 ⟨"LathePieces", "wholeRoot", "(I)I"⟩ "LathePieces") ∈ lw_tbl := tb_2 (List.mem_of_getElem? (i := 6) rfl)
theorem g_247 : (Cond.static ⟨"LathePieces", "wholeRoot", "(I)I"⟩) ∈ GW := gw_2 (List.mem_of_getElem? (i := 7) rfl) rfl
theorem g_248 : (Cond.code ⟨"LathePieces", "wholeRoot", "(I)I"⟩ prog_1_method_40_code 4 (Option.some FieldType.int)) ∈ GW := gw_2 (List.mem_of_getElem? (i := 8) rfl) rfl
theorem g_249 : (Cond.methodLink "LathePieces$Profile" 46 ⟨"java/lang/Math", "min", "(II)I"⟩) ∈ GW := gw_2 (List.mem_of_getElem? (i := 9) rfl) rfl
theorem g_250 : (Cond.static ⟨"java/lang/Math", "min", "(II)I"⟩) ∈ GW := gw_2 (List.mem_of_getElem? (i := 10) rfl) rfl
theorem g_251 : (Cond.code ⟨"java/lang/Math", "min", "(II)I"⟩ prog_14_method_69_code 2 (Option.some FieldType.int)) ∈ GW := gw_2 (List.mem_of_getElem? (i := 11) rfl) rfl
theorem g_252 : (Cond.methodLink "LathePieces$Profile" 49 ⟨"java/lang/Math", "max", "(II)I"⟩) ∈ GW := gw_2 (List.mem_of_getElem? (i := 12) rfl) rfl
theorem g_253 : (Cond.static ⟨"java/lang/Math", "max", "(II)I"⟩) ∈ GW := gw_2 (List.mem_of_getElem? (i := 13) rfl) rfl
theorem g_254 : (Cond.code ⟨"java/lang/Math", "max", "(II)I"⟩ prog_14_method_65_code 2 (Option.some FieldType.int)) ∈ GW := gw_2 (List.mem_of_getElem? (i := 14) rfl) rfl
theorem g_255 : (Cond.methodLink "LathePiecesLaw" 124 ⟨"LathePiecesLaw", "turn", "(LLathePieces;[J)I"⟩) ∈ GW := gw_2 (List.mem_of_getElem? (i := 15) rfl) rfl
theorem g_256 : (Cond.static ⟨"LathePiecesLaw", "turn", "(LLathePieces;[J)I"⟩) ∈ GW := gw_2 (List.mem_of_getElem? (i := 16) rfl) rfl
theorem g_257 : (Cond.codeWith ⟨"LathePiecesLaw", "turn", "(LLathePieces;[J)I"⟩ method_6_code 3 (Option.some FieldType.int) [(0, 8, 11, 19)]) ∈ GW := gw_2 (List.mem_of_getElem? (i := 17) rfl) rfl
theorem g_258 : (Cond.methodLink "LathePiecesLaw" 25 ⟨"LathePieces", "turn", "()I"⟩) ∈ GW := gw_2 (List.mem_of_getElem? (i := 18) rfl) rfl
theorem g_259 : (Cond.instanceMethod ⟨"LathePieces", "turn", "()I"⟩) ∈ GW := gw_2 (List.mem_of_getElem? (i := 19) rfl) rfl
theorem g_260 : (Cond.selects "LathePieces" ⟨"LathePieces", "turn", "()I"⟩ ⟨"LathePieces", "turn", "()I"⟩) ∈ GW := gw_2 (List.mem_of_getElem? (i := 20) rfl) rfl
theorem g_261 : (Cond.code ⟨"LathePieces", "turn", "()I"⟩ prog_1_method_5_code 1 (Option.some FieldType.int)) ∈ GW := gw_2 (List.mem_of_getElem? (i := 21) rfl) rfl
theorem g_262 : (Cond.stringRef "LathePieces" 82 "no room for a piece, or no way to turn") ∈ lw_tbl := tb_2 (List.mem_of_getElem? (i := 22) rfl)
theorem g_263 : (Cond.instantiable "LathePieces$Piece" 4) ∈ GW := gw_2 (List.mem_of_getElem? (i := 23) rfl) rfl
theorem g_264 : (Cond.methodLink "LathePieces" 87 ⟨"LathePieces$Piece", "<init>", "(LLathePieces$Profile;)V"⟩) ∈ GW := gw_2 (List.mem_of_getElem? (i := 24) rfl) rfl
theorem g_265 : (Cond.instanceMethod ⟨"LathePieces$Piece", "<init>", "(LLathePieces$Profile;)V"⟩) ∈ GW := gw_2 (List.mem_of_getElem? (i := 25) rfl) rfl
theorem g_266 : (Cond.code ⟨"LathePieces$Piece", "<init>", "(LLathePieces$Profile;)V"⟩ prog_3_method_1_code 4 (Option.none : Option FieldType)) ∈ GW := gw_2 (List.mem_of_getElem? (i := 26) rfl) rfl
theorem g_267 : (Cond.methodLink "LathePieces$Piece" 3 ⟨"java/lang/Object", "<init>", "()V"⟩) ∈ GW := gw_2 (List.mem_of_getElem? (i := 27) rfl) rfl
theorem g_268 : (Cond.methodLink "LathePieces$Piece" 19 ⟨"java/util/Arrays", "copyOf", "([II)[I"⟩) ∈ GW := gw_2 (List.mem_of_getElem? (i := 28) rfl) rfl
theorem g_269 : (Cond.static ⟨"java/util/Arrays", "copyOf", "([II)[I"⟩) ∈ GW := gw_2 (List.mem_of_getElem? (i := 29) rfl) rfl
theorem g_270 : (Cond.code ⟨"java/util/Arrays", "copyOf", "([II)[I"⟩ prog_19_method_123_code 3 (Option.some (FieldType.array FieldType.int))) ∈ GW := gw_2 (List.mem_of_getElem? (i := 30) rfl) rfl
theorem g_271 : (Cond.methodLink "java/util/Arrays" 316 ⟨"[I", "clone", "()Ljava/lang/Object;"⟩) ∈ GW := gw_2 (List.mem_of_getElem? (i := 31) rfl) rfl
theorem g_272 : (Cond.sameMethod "[I" "java/lang/Object" "clone" "()Ljava/lang/Object;") ∈ GW := gw_2 (List.mem_of_getElem? (i := 32) rfl) rfl
theorem g_273 : (Cond.native ⟨"java/lang/Object", "clone", "()Ljava/lang/Object;"⟩) ∈ GW := gw_2 (List.mem_of_getElem? (i := 33) rfl) rfl
theorem g_274 : (Cond.instanceMethod ⟨"java/lang/Object", "clone", "()Ljava/lang/Object;"⟩) ∈ GW := gw_2 (List.mem_of_getElem? (i := 34) rfl) rfl
theorem g_275 : (Cond.selects "[I" ⟨"[I", "clone", "()Ljava/lang/Object;"⟩ ⟨"java/lang/Object", "clone", "()Ljava/lang/Object;"⟩) ∈ GW := gw_2 (List.mem_of_getElem? (i := 35) rfl) rfl
theorem g_276 : (Cond.castable "[I" "java/lang/Cloneable") ∈ lw_tbl := tb_2 (List.mem_of_getElem? (i := 36) rfl)
theorem g_277 : (Cond.classLink "java/util/Arrays" 317 "[I") ∈ GW := gw_2 (List.mem_of_getElem? (i := 37) rfl) rfl
theorem g_278 : (Cond.methodLink "java/util/Arrays" 304 ⟨"java/lang/Math", "min", "(II)I"⟩) ∈ GW := gw_2 (List.mem_of_getElem? (i := 38) rfl) rfl
theorem g_279 : (Cond.methodLink "java/util/Arrays" 150 ⟨"java/lang/System", "arraycopy", "(Ljava/lang/Object;ILjava/lang/Object;II)V"⟩) ∈ GW := gw_2 (List.mem_of_getElem? (i := 39) rfl) rfl
theorem g_280 : (Cond.static ⟨"java/lang/System", "arraycopy", "(Ljava/lang/Object;ILjava/lang/Object;II)V"⟩) ∈ GW := gw_2 (List.mem_of_getElem? (i := 40) rfl) rfl
theorem g_281 : (Cond.native ⟨"java/lang/System", "arraycopy", "(Ljava/lang/Object;ILjava/lang/Object;II)V"⟩) ∈ GW := gw_2 (List.mem_of_getElem? (i := 41) rfl) rfl
theorem g_282 : (Cond.methodLink "LathePieces$Piece" 35 ⟨"java/lang/Math", "max", "(II)I"⟩) ∈ GW := gw_2 (List.mem_of_getElem? (i := 42) rfl) rfl
theorem g_283 : (Cond.fieldLink "LathePieces$Piece" 25 "LathePieces$Piece" "radii" "[I") ∈ GW := gw_2 (List.mem_of_getElem? (i := 43) rfl) rfl
theorem g_284 : (Cond.fieldLink "LathePieces" 126 "LathePieces$Piece" "radii" "[I") ∈ GW := gw_2 (List.mem_of_getElem? (i := 44) rfl) rfl
theorem g_285 : (Cond.fieldLink "LathePieces$Piece" 28 "LathePieces$Piece" "length" "I") ∈ GW := gw_2 (List.mem_of_getElem? (i := 45) rfl) rfl
theorem g_286 : (Cond.fieldLink "LathePieces" 98 "LathePieces$Piece" "length" "I") ∈ GW := gw_2 (List.mem_of_getElem? (i := 46) rfl) rfl
theorem g_287 : (Cond.fieldLink "LathePieces$Piece" 41 "LathePieces$Piece" "blank" "I") ∈ GW := gw_2 (List.mem_of_getElem? (i := 47) rfl) rfl
theorem g_288 : (Cond.fieldLink "LathePieces" 101 "LathePieces$Piece" "blank" "I") ∈ GW := gw_2 (List.mem_of_getElem? (i := 48) rfl) rfl
theorem g_289 : (Cond.fieldLink "LathePieces$Piece" 34 "LathePieces$Piece" "ways" "I") ∈ GW := gw_2 (List.mem_of_getElem? (i := 49) rfl) rfl
theorem g_290 : (Cond.fieldLink "LathePieces" 104 "LathePieces$Piece" "ways" "I") ∈ GW := gw_2 (List.mem_of_getElem? (i := 50) rfl) rfl
theorem g_291 : (Cond.laysFinal "LathePieces$Piece" "LathePieces$Piece" "radii" "[I") ∈ GW := gw_2 (List.mem_of_getElem? (i := 51) rfl) rfl
theorem g_292 : (Cond.soleField "LathePieces$Piece" "radii") ∈ GW := gw_2 (List.mem_of_getElem? (i := 52) rfl) rfl
theorem g_293 : (Cond.laysFinal "LathePieces$Piece" "LathePieces$Piece" "length" "I") ∈ GW := gw_2 (List.mem_of_getElem? (i := 53) rfl) rfl
theorem g_294 : (Cond.soleField "LathePieces$Piece" "length") ∈ GW := gw_2 (List.mem_of_getElem? (i := 54) rfl) rfl
theorem g_295 : (Cond.laysFinal "LathePieces$Piece" "LathePieces$Piece" "blank" "I") ∈ GW := gw_2 (List.mem_of_getElem? (i := 55) rfl) rfl
theorem g_296 : (Cond.soleField "LathePieces$Piece" "blank") ∈ GW := gw_2 (List.mem_of_getElem? (i := 56) rfl) rfl
theorem g_297 : (Cond.laysFinal "LathePieces$Piece" "LathePieces$Piece" "ways" "I") ∈ GW := gw_2 (List.mem_of_getElem? (i := 57) rfl) rfl
theorem g_298 : (Cond.soleField "LathePieces$Piece" "ways") ∈ GW := gw_2 (List.mem_of_getElem? (i := 58) rfl) rfl
theorem g_299 : (Cond.superclass "LathePieces$Piece" "java/lang/Object") ∈ GW := gw_2 (List.mem_of_getElem? (i := 59) rfl) rfl
theorem g_300 : (Cond.methodLink "LathePiecesLaw" 128 ⟨"LathePiecesLaw", "radius", "(LLathePieces;II[J)I"⟩) ∈ GW := gw_2 (List.mem_of_getElem? (i := 60) rfl) rfl
theorem g_301 : (Cond.static ⟨"LathePiecesLaw", "radius", "(LLathePieces;II[J)I"⟩) ∈ GW := gw_2 (List.mem_of_getElem? (i := 61) rfl) rfl
theorem g_302 : (Cond.codeWith ⟨"LathePiecesLaw", "radius", "(LLathePieces;II[J)I"⟩ method_7_code 5 (Option.some FieldType.int) [(0, 10, 13, 32)]) ∈ GW := gw_2 (List.mem_of_getElem? (i := 62) rfl) rfl
theorem g_303 : (Cond.classLink "LathePiecesLaw" 32 "java/lang/IndexOutOfBoundsException") ∈ GW := gw_2 (List.mem_of_getElem? (i := 63) rfl) rfl
theorem g_304 : (Cond.methodLink "LathePiecesLaw" 29 ⟨"LathePieces", "radius", "(II)I"⟩) ∈ GW := gw_2 (List.mem_of_getElem? (i := 64) rfl) rfl
theorem g_305 : (Cond.instanceMethod ⟨"LathePieces", "radius", "(II)I"⟩) ∈ GW := gw_2 (List.mem_of_getElem? (i := 65) rfl) rfl
theorem g_306 : (Cond.selects "LathePieces" ⟨"LathePieces", "radius", "(II)I"⟩ ⟨"LathePieces", "radius", "(II)I"⟩) ∈ GW := gw_2 (List.mem_of_getElem? (i := 66) rfl) rfl
theorem g_307 : (Cond.code ⟨"LathePieces", "radius", "(II)I"⟩ prog_1_method_6_code 3 (Option.some FieldType.int)) ∈ GW := gw_2 (List.mem_of_getElem? (i := 67) rfl) rfl
theorem g_308 : (Cond.methodLink "LathePieces" 90 ⟨"LathePieces", "radiusAt", "(II)I"⟩) ∈ GW := gw_2 (List.mem_of_getElem? (i := 68) rfl) rfl
theorem g_309 : (Cond.privateMethod ⟨"LathePieces", "radiusAt", "(II)I"⟩) ∈ lw_tbl := tb_2 (List.mem_of_getElem? (i := 69) rfl)
theorem g_310 : (Cond.instanceMethod ⟨"LathePieces", "radiusAt", "(II)I"⟩) ∈ GW := gw_2 (List.mem_of_getElem? (i := 70) rfl) rfl
theorem g_311 : (Cond.code ⟨"LathePieces", "radiusAt", "(II)I"⟩ prog_1_method_30_code 4 (Option.some FieldType.int)) ∈ GW := gw_2 (List.mem_of_getElem? (i := 71) rfl) rfl
theorem g_312 : (Cond.methodLink "LathePieces" 94 ⟨"LathePieces", "pieceAt", "(I)LLathePieces$Piece;"⟩) ∈ GW := gw_2 (List.mem_of_getElem? (i := 72) rfl) rfl
theorem g_313 : (Cond.privateMethod ⟨"LathePieces", "pieceAt", "(I)LLathePieces$Piece;"⟩) ∈ lw_tbl := tb_2 (List.mem_of_getElem? (i := 73) rfl)
theorem g_314 : (Cond.instanceMethod ⟨"LathePieces", "pieceAt", "(I)LLathePieces$Piece;"⟩) ∈ GW := gw_2 (List.mem_of_getElem? (i := 74) rfl) rfl
theorem g_315 : (Cond.code ⟨"LathePieces", "pieceAt", "(I)LLathePieces$Piece;"⟩ prog_1_method_27_code 3 (Option.some (FieldType.object "LathePieces$Piece"))) ∈ GW := gw_2 (List.mem_of_getElem? (i := 75) rfl) rfl
theorem g_316 : (Cond.classLink "LathePieces" 105 "java/lang/IndexOutOfBoundsException") ∈ GW := gw_2 (List.mem_of_getElem? (i := 76) rfl) rfl
theorem g_317 : (Cond.instantiable "java/lang/IndexOutOfBoundsException" 6) ∈ GW := gw_2 (List.mem_of_getElem? (i := 77) rfl) rfl
theorem g_318 : (Cond.castable "java/lang/IndexOutOfBoundsException" "java/lang/IndexOutOfBoundsException") ∈ lw_tbl := tb_2 (List.mem_of_getElem? (i := 78) rfl)
theorem g_319 : (Cond.selects "java/lang/IndexOutOfBoundsException" ⟨"java/lang/Throwable", "fillInStackTrace", "(I)Ljava/lang/Throwable;"⟩ ⟨"java/lang/Throwable", "fillInStackTrace", "(I)Ljava/lang/Throwable;"⟩) ∈ GW := gw_2 (List.mem_of_getElem? (i := 79) rfl) rfl
theorem g_320 : (Cond.lays "java/lang/IndexOutOfBoundsException" "java/lang/Throwable" "cause" "Ljava/lang/Throwable;") ∈ GW := gw_2 (List.mem_of_getElem? (i := 80) rfl) rfl
theorem g_321 : (Cond.lays "java/lang/IndexOutOfBoundsException" "java/lang/Throwable" "stackTrace" "[Ljava/lang/StackTraceElement;") ∈ GW := gw_2 (List.mem_of_getElem? (i := 81) rfl) rfl
theorem g_322 : (Cond.lays "java/lang/IndexOutOfBoundsException" "java/lang/Throwable" "suppressedExceptions" "Ljava/util/List;") ∈ GW := gw_2 (List.mem_of_getElem? (i := 82) rfl) rfl
theorem g_323 : (Cond.lays "java/lang/IndexOutOfBoundsException" "java/lang/Throwable" "detailMessage" "Ljava/lang/String;") ∈ GW := gw_2 (List.mem_of_getElem? (i := 83) rfl) rfl
theorem g_324 : (Cond.lays "java/lang/IndexOutOfBoundsException" "java/lang/Throwable" "backtrace" "Ljava/lang/Object;") ∈ GW := gw_2 (List.mem_of_getElem? (i := 84) rfl) rfl
theorem g_325 : (Cond.stringRef "LathePieces" 239 "no such piece") ∈ lw_tbl := tb_2 (List.mem_of_getElem? (i := 85) rfl)
theorem g_326 : (Cond.methodLink "LathePieces" 109 ⟨"java/lang/IndexOutOfBoundsException", "<init>", "(Ljava/lang/String;)V"⟩) ∈ GW := gw_2 (List.mem_of_getElem? (i := 86) rfl) rfl
theorem g_327 : (Cond.instanceMethod ⟨"java/lang/IndexOutOfBoundsException", "<init>", "(Ljava/lang/String;)V"⟩) ∈ GW := gw_2 (List.mem_of_getElem? (i := 87) rfl) rfl
theorem g_328 : (Cond.code ⟨"java/lang/IndexOutOfBoundsException", "<init>", "(Ljava/lang/String;)V"⟩ prog_13_method_2_code 2 (Option.none : Option FieldType)) ∈ GW := gw_2 (List.mem_of_getElem? (i := 88) rfl) rfl
theorem g_329 : (Cond.methodLink "java/lang/IndexOutOfBoundsException" 7 ⟨"java/lang/RuntimeException", "<init>", "(Ljava/lang/String;)V"⟩) ∈ GW := gw_2 (List.mem_of_getElem? (i := 89) rfl) rfl
theorem g_330 : (Cond.lays "java/lang/IndexOutOfBoundsException" "java/lang/Throwable" "depth" "I") ∈ GW := gw_2 (List.mem_of_getElem? (i := 90) rfl) rfl
theorem g_331 : (Cond.superclass "java/lang/IndexOutOfBoundsException" "java/lang/RuntimeException") ∈ GW := gw_2 (List.mem_of_getElem? (i := 91) rfl) rfl
theorem g_332 : (Cond.stringRef "LathePieces" 124 "no such place") ∈ lw_tbl := tb_2 (List.mem_of_getElem? (i := 92) rfl)
theorem g_333 : (Cond.methodLink "LathePiecesLaw" 131 ⟨"LathePiecesLaw", "about", "(LLathePieces;II[J)I"⟩) ∈ GW := gw_2 (List.mem_of_getElem? (i := 93) rfl) rfl
theorem g_334 : (Cond.static ⟨"LathePiecesLaw", "about", "(LLathePieces;II[J)I"⟩) ∈ GW := gw_2 (List.mem_of_getElem? (i := 94) rfl) rfl
theorem g_335 : (Cond.codeWith ⟨"LathePiecesLaw", "about", "(LLathePieces;II[J)I"⟩ method_8_code 5 (Option.some FieldType.int) [(0, 10, 13, 32)]) ∈ GW := gw_2 (List.mem_of_getElem? (i := 95) rfl) rfl
theorem g_336 : (Cond.methodLink "LathePiecesLaw" 34 ⟨"LathePieces", "about", "(II)I"⟩) ∈ GW := gw_2 (List.mem_of_getElem? (i := 96) rfl) rfl
theorem g_337 : (Cond.instanceMethod ⟨"LathePieces", "about", "(II)I"⟩) ∈ GW := gw_2 (List.mem_of_getElem? (i := 97) rfl) rfl
theorem g_338 : (Cond.selects "LathePieces" ⟨"LathePieces", "about", "(II)I"⟩ ⟨"LathePieces", "about", "(II)I"⟩) ∈ GW := gw_2 (List.mem_of_getElem? (i := 98) rfl) rfl
theorem g_339 : (Cond.code ⟨"LathePieces", "about", "(II)I"⟩ prog_1_method_7_code 4 (Option.some FieldType.int)) ∈ GW := gw_2 (List.mem_of_getElem? (i := 99) rfl) rfl
theorem g_340 : (Cond.stringRef "LathePieces" 107 "no such what") ∈ lw_tbl := tb_2 (List.mem_of_getElem? (i := 100) rfl)
theorem g_341 : (Cond.methodLink "LathePiecesLaw" 134 ⟨"LathePiecesLaw", "tool", "(LLathePieces;I[J)I"⟩) ∈ GW := gw_2 (List.mem_of_getElem? (i := 101) rfl) rfl
theorem g_342 : (Cond.static ⟨"LathePiecesLaw", "tool", "(LLathePieces;I[J)I"⟩) ∈ GW := gw_2 (List.mem_of_getElem? (i := 102) rfl) rfl
theorem g_343 : (Cond.codeWith ⟨"LathePiecesLaw", "tool", "(LLathePieces;I[J)I"⟩ method_9_code 4 (Option.some FieldType.int) [(0, 9, 12, 13), (0, 9, 15, 19)]) ∈ GW := gw_2 (List.mem_of_getElem? (i := 103) rfl) rfl
theorem g_344 : (Cond.methodLink "LathePiecesLaw" 37 ⟨"LathePieces", "tool", "(I)I"⟩) ∈ GW := gw_2 (List.mem_of_getElem? (i := 104) rfl) rfl
theorem g_345 : (Cond.instanceMethod ⟨"LathePieces", "tool", "(I)I"⟩) ∈ GW := gw_2 (List.mem_of_getElem? (i := 105) rfl) rfl
theorem g_346 : (Cond.selects "LathePieces" ⟨"LathePieces", "tool", "(I)I"⟩ ⟨"LathePieces", "tool", "(I)I"⟩) ∈ GW := gw_2 (List.mem_of_getElem? (i := 106) rfl) rfl
theorem g_347 : (Cond.code ⟨"LathePieces", "tool", "(I)I"⟩ prog_1_method_8_code 2 (Option.some FieldType.int)) ∈ GW := gw_2 (List.mem_of_getElem? (i := 107) rfl) rfl
theorem g_348 : (Cond.stringRef "LathePieces" 113 "no room for a tool") ∈ lw_tbl := tb_2 (List.mem_of_getElem? (i := 108) rfl)
theorem g_349 : (Cond.instantiable "LathePieces$Nose" 1) ∈ GW := gw_2 (List.mem_of_getElem? (i := 109) rfl) rfl
theorem g_350 : (Cond.methodLink "LathePieces" 115 ⟨"LathePieces$Nose", "<init>", "(I)V"⟩) ∈ GW := gw_2 (List.mem_of_getElem? (i := 110) rfl) rfl
theorem g_351 : (Cond.instanceMethod ⟨"LathePieces$Nose", "<init>", "(I)V"⟩) ∈ GW := gw_2 (List.mem_of_getElem? (i := 111) rfl) rfl
theorem g_352 : (Cond.code ⟨"LathePieces$Nose", "<init>", "(I)V"⟩ prog_2_method_1_code 3 (Option.none : Option FieldType)) ∈ GW := gw_2 (List.mem_of_getElem? (i := 112) rfl) rfl
theorem g_353 : (Cond.methodLink "LathePieces$Nose" 1 ⟨"java/lang/Object", "<init>", "()V"⟩) ∈ GW := gw_2 (List.mem_of_getElem? (i := 113) rfl) rfl
theorem g_354 : (Cond.methodLinkNest "LathePieces$Nose" 13 ⟨"LathePieces", "wholeRoot", "(I)I"⟩ "LathePieces") ∈ lw_tbl := tb_2 (List.mem_of_getElem? (i := 114) rfl)
theorem g_355 : (Cond.fieldLink "LathePieces$Nose" 7 "LathePieces$Nose" "heights" "[I") ∈ GW := gw_2 (List.mem_of_getElem? (i := 115) rfl) rfl
theorem g_356 : (Cond.fieldLink "LathePieces" 249 "LathePieces$Nose" "heights" "[I") ∈ GW := gw_2 (List.mem_of_getElem? (i := 116) rfl) rfl
theorem g_357 : (Cond.laysFinal "LathePieces$Nose" "LathePieces$Nose" "heights" "[I") ∈ GW := gw_2 (List.mem_of_getElem? (i := 117) rfl) rfl
theorem g_358 : (Cond.soleField "LathePieces$Nose" "heights") ∈ GW := gw_2 (List.mem_of_getElem? (i := 118) rfl) rfl
theorem g_359 : (Cond.superclass "LathePieces$Nose" "java/lang/Object") ∈ GW := gw_2 (List.mem_of_getElem? (i := 119) rfl) rfl
theorem g_360 : (Cond.methodLink "LathePiecesLaw" 138 ⟨"LathePiecesLaw", "reached", "(LLathePieces;III[J)I"⟩) ∈ GW := gw_2 (List.mem_of_getElem? (i := 120) rfl) rfl
theorem g_361 : (Cond.static ⟨"LathePiecesLaw", "reached", "(LLathePieces;III[J)I"⟩) ∈ GW := gw_2 (List.mem_of_getElem? (i := 121) rfl) rfl
theorem g_362 : (Cond.codeWith ⟨"LathePiecesLaw", "reached", "(LLathePieces;III[J)I"⟩ method_10_code 6 (Option.some FieldType.int) [(0, 12, 15, 32)]) ∈ GW := gw_2 (List.mem_of_getElem? (i := 122) rfl) rfl
theorem g_363 : (Cond.methodLink "LathePiecesLaw" 41 ⟨"LathePieces", "reached", "(III)I"⟩) ∈ GW := gw_2 (List.mem_of_getElem? (i := 123) rfl) rfl
theorem g_364 : (Cond.instanceMethod ⟨"LathePieces", "reached", "(III)I"⟩) ∈ GW := gw_2 (List.mem_of_getElem? (i := 124) rfl) rfl
theorem g_365 : (Cond.selects "LathePieces" ⟨"LathePieces", "reached", "(III)I"⟩ ⟨"LathePieces", "reached", "(III)I"⟩) ∈ GW := gw_2 (List.mem_of_getElem? (i := 125) rfl) rfl
theorem g_366 : (Cond.code ⟨"LathePieces", "reached", "(III)I"⟩ prog_1_method_9_code 5 (Option.some FieldType.int)) ∈ GW := gw_2 (List.mem_of_getElem? (i := 126) rfl) rfl
theorem g_367 : (Cond.methodLink "LathePieces" 117 ⟨"LathePieces", "reachOf", "(II)LLathePieces$Reach;"⟩) ∈ GW := gw_2 (List.mem_of_getElem? (i := 127) rfl) rfl
theorem g_368 : (Cond.privateMethod ⟨"LathePieces", "reachOf", "(II)LLathePieces$Reach;"⟩) ∈ lw_tbl := tb_2 (List.mem_of_getElem? (i := 128) rfl)
theorem g_369 : (Cond.instanceMethod ⟨"LathePieces", "reachOf", "(II)LLathePieces$Reach;"⟩) ∈ GW := gw_2 (List.mem_of_getElem? (i := 129) rfl) rfl
theorem g_370 : (Cond.code ⟨"LathePieces", "reachOf", "(II)LLathePieces$Reach;"⟩ prog_1_method_31_code 7 (Option.some (FieldType.object "LathePieces$Reach"))) ∈ GW := gw_2 (List.mem_of_getElem? (i := 130) rfl) rfl
theorem g_371 : (Cond.methodLink "LathePieces" 245 ⟨"LathePieces", "noseAt", "(I)LLathePieces$Nose;"⟩) ∈ GW := gw_2 (List.mem_of_getElem? (i := 131) rfl) rfl
theorem g_372 : (Cond.privateMethod ⟨"LathePieces", "noseAt", "(I)LLathePieces$Nose;"⟩) ∈ lw_tbl := tb_2 (List.mem_of_getElem? (i := 132) rfl)
theorem g_373 : (Cond.instanceMethod ⟨"LathePieces", "noseAt", "(I)LLathePieces$Nose;"⟩) ∈ GW := gw_2 (List.mem_of_getElem? (i := 133) rfl) rfl
theorem g_374 : (Cond.code ⟨"LathePieces", "noseAt", "(I)LLathePieces$Nose;"⟩ prog_1_method_28_code 3 (Option.some (FieldType.object "LathePieces$Nose"))) ∈ GW := gw_2 (List.mem_of_getElem? (i := 134) rfl) rfl
theorem g_375 : (Cond.stringRef "LathePieces" 241 "no such tool") ∈ lw_tbl := tb_2 (List.mem_of_getElem? (i := 135) rfl)
theorem g_376 : (Cond.instantiable "LathePieces$Reach" 1) ∈ GW := gw_2 (List.mem_of_getElem? (i := 136) rfl) rfl
theorem g_377 : (Cond.methodLink "LathePieces" 252 ⟨"LathePieces$Reach", "<init>", "([I[I)V"⟩) ∈ GW := gw_2 (List.mem_of_getElem? (i := 137) rfl) rfl
theorem g_378 : (Cond.instanceMethod ⟨"LathePieces$Reach", "<init>", "([I[I)V"⟩) ∈ GW := gw_2 (List.mem_of_getElem? (i := 138) rfl) rfl
theorem g_379 : (Cond.code ⟨"LathePieces$Reach", "<init>", "([I[I)V"⟩ prog_5_method_1_code 5 (Option.none : Option FieldType)) ∈ GW := gw_2 (List.mem_of_getElem? (i := 139) rfl) rfl
theorem g_380 : (Cond.methodLink "LathePieces$Reach" 3 ⟨"java/lang/Object", "<init>", "()V"⟩) ∈ GW := gw_2 (List.mem_of_getElem? (i := 140) rfl) rfl
theorem g_381 : (Cond.methodLink "LathePieces$Reach" 9 ⟨"LathePieces$Reach", "liftAt", "([I[II)I"⟩) ∈ GW := gw_2 (List.mem_of_getElem? (i := 141) rfl) rfl
theorem g_382 : (Cond.static ⟨"LathePieces$Reach", "liftAt", "([I[II)I"⟩) ∈ GW := gw_2 (List.mem_of_getElem? (i := 142) rfl) rfl
theorem g_383 : (Cond.code ⟨"LathePieces$Reach", "liftAt", "([I[II)I"⟩ prog_5_method_2_code 7 (Option.some FieldType.int)) ∈ GW := gw_2 (List.mem_of_getElem? (i := 143) rfl) rfl
theorem g_384 : (Cond.methodLink "LathePieces$Reach" 22 ⟨"java/lang/Math", "min", "(II)I"⟩) ∈ GW := gw_2 (List.mem_of_getElem? (i := 144) rfl) rfl
theorem g_385 : (Cond.methodLink "LathePieces$Reach" 28 ⟨"java/lang/Math", "max", "(II)I"⟩) ∈ GW := gw_2 (List.mem_of_getElem? (i := 145) rfl) rfl
theorem g_386 : (Cond.methodLink "LathePieces$Reach" 31 ⟨"java/lang/Math", "abs", "(I)I"⟩) ∈ GW := gw_2 (List.mem_of_getElem? (i := 146) rfl) rfl
theorem g_387 : (Cond.static ⟨"java/lang/Math", "abs", "(I)I"⟩) ∈ GW := gw_2 (List.mem_of_getElem? (i := 147) rfl) rfl
theorem g_388 : (Cond.code ⟨"java/lang/Math", "abs", "(I)I"⟩ prog_14_method_59_code 1 (Option.some FieldType.int)) ∈ GW := gw_2 (List.mem_of_getElem? (i := 148) rfl) rfl
theorem g_389 : (Cond.methodLink "LathePieces$Reach" 19 ⟨"LathePieces$Reach", "lowAt", "([I[II)I"⟩) ∈ GW := gw_2 (List.mem_of_getElem? (i := 149) rfl) rfl
theorem g_390 : (Cond.static ⟨"LathePieces$Reach", "lowAt", "([I[II)I"⟩) ∈ GW := gw_2 (List.mem_of_getElem? (i := 150) rfl) rfl
theorem g_391 : (Cond.code ⟨"LathePieces$Reach", "lowAt", "([I[II)I"⟩ prog_5_method_3_code 7 (Option.some FieldType.int)) ∈ GW := gw_2 (List.mem_of_getElem? (i := 151) rfl) rfl
theorem g_392 : (Cond.fieldLink "LathePieces$Reach" 15 "LathePieces$Reach" "lows" "[I") ∈ GW := gw_2 (List.mem_of_getElem? (i := 152) rfl) rfl
theorem g_393 : (Cond.fieldLink "LathePieces" 121 "LathePieces$Reach" "lows" "[I") ∈ GW := gw_2 (List.mem_of_getElem? (i := 153) rfl) rfl
theorem g_394 : (Cond.laysFinal "LathePieces$Reach" "LathePieces$Reach" "lows" "[I") ∈ GW := gw_2 (List.mem_of_getElem? (i := 154) rfl) rfl
theorem g_395 : (Cond.soleField "LathePieces$Reach" "lows") ∈ GW := gw_2 (List.mem_of_getElem? (i := 155) rfl) rfl
theorem g_396 : (Cond.superclass "LathePieces$Reach" "java/lang/Object") ∈ GW := gw_2 (List.mem_of_getElem? (i := 156) rfl) rfl
theorem g_397 : (Cond.methodLink "LathePiecesLaw" 142 ⟨"LathePiecesLaw", "left", "(LLathePieces;II[J)I"⟩) ∈ GW := gw_2 (List.mem_of_getElem? (i := 157) rfl) rfl
theorem g_398 : (Cond.static ⟨"LathePiecesLaw", "left", "(LLathePieces;II[J)I"⟩) ∈ GW := gw_2 (List.mem_of_getElem? (i := 158) rfl) rfl
theorem g_399 : (Cond.codeWith ⟨"LathePiecesLaw", "left", "(LLathePieces;II[J)I"⟩ method_11_code 5 (Option.some FieldType.int) [(0, 10, 13, 32)]) ∈ GW := gw_2 (List.mem_of_getElem? (i := 159) rfl) rfl
theorem g_400 : (Cond.methodLink "LathePiecesLaw" 45 ⟨"LathePieces", "left", "(II)I"⟩) ∈ GW := gw_2 (List.mem_of_getElem? (i := 160) rfl) rfl
theorem g_401 : (Cond.instanceMethod ⟨"LathePieces", "left", "(II)I"⟩) ∈ GW := gw_2 (List.mem_of_getElem? (i := 161) rfl) rfl
theorem g_402 : (Cond.selects "LathePieces" ⟨"LathePieces", "left", "(II)I"⟩ ⟨"LathePieces", "left", "(II)I"⟩) ∈ GW := gw_2 (List.mem_of_getElem? (i := 162) rfl) rfl
theorem g_403 : (Cond.code ⟨"LathePieces", "left", "(II)I"⟩ prog_1_method_10_code 3 (Option.some FieldType.int)) ∈ GW := gw_2 (List.mem_of_getElem? (i := 163) rfl) rfl
theorem g_404 : (Cond.methodLink "LathePieces" 129 ⟨"LathePieces$Reach", "placesAbove", "([I)I"⟩) ∈ GW := gw_2 (List.mem_of_getElem? (i := 164) rfl) rfl
theorem g_405 : (Cond.instanceMethod ⟨"LathePieces$Reach", "placesAbove", "([I)I"⟩) ∈ GW := gw_2 (List.mem_of_getElem? (i := 165) rfl) rfl
theorem g_406 : (Cond.selects "LathePieces$Reach" ⟨"LathePieces$Reach", "placesAbove", "([I)I"⟩ ⟨"LathePieces$Reach", "placesAbove", "([I)I"⟩) ∈ GW := gw_2 (List.mem_of_getElem? (i := 166) rfl) rfl
theorem g_407 : (Cond.code ⟨"LathePieces$Reach", "placesAbove", "([I)I"⟩ prog_5_method_4_code 4 (Option.some FieldType.int)) ∈ GW := gw_2 (List.mem_of_getElem? (i := 167) rfl) rfl
theorem g_408 : (Cond.methodLink "LathePiecesLaw" 145 ⟨"LathePiecesLaw", "passes", "(LLathePieces;IIII[J)I"⟩) ∈ GW := gw_2 (List.mem_of_getElem? (i := 168) rfl) rfl
theorem g_409 : (Cond.static ⟨"LathePiecesLaw", "passes", "(LLathePieces;IIII[J)I"⟩) ∈ GW := gw_2 (List.mem_of_getElem? (i := 169) rfl) rfl
theorem g_410 : (Cond.codeWith ⟨"LathePiecesLaw", "passes", "(LLathePieces;IIII[J)I"⟩ method_12_code 7 (Option.some FieldType.int) [(0, 14, 17, 32), (0, 14, 21, 13)]) ∈ GW := gw_2 (List.mem_of_getElem? (i := 170) rfl) rfl
theorem g_411 : (Cond.methodLink "LathePiecesLaw" 48 ⟨"LathePieces", "passes", "(IIII)I"⟩) ∈ GW := gw_2 (List.mem_of_getElem? (i := 171) rfl) rfl
theorem g_412 : (Cond.instanceMethod ⟨"LathePieces", "passes", "(IIII)I"⟩) ∈ GW := gw_2 (List.mem_of_getElem? (i := 172) rfl) rfl
theorem g_413 : (Cond.selects "LathePieces" ⟨"LathePieces", "passes", "(IIII)I"⟩ ⟨"LathePieces", "passes", "(IIII)I"⟩) ∈ GW := gw_2 (List.mem_of_getElem? (i := 173) rfl) rfl
theorem g_414 : (Cond.code ⟨"LathePieces", "passes", "(IIII)I"⟩ prog_1_method_11_code 6 (Option.some FieldType.int)) ∈ GW := gw_2 (List.mem_of_getElem? (i := 174) rfl) rfl
theorem g_415 : (Cond.methodLink "LathePieces" 133 ⟨"LathePieces", "checkRough", "(II)V"⟩) ∈ GW := gw_2 (List.mem_of_getElem? (i := 175) rfl) rfl
theorem g_416 : (Cond.static ⟨"LathePieces", "checkRough", "(II)V"⟩) ∈ GW := gw_2 (List.mem_of_getElem? (i := 176) rfl) rfl
theorem g_417 : (Cond.code ⟨"LathePieces", "checkRough", "(II)V"⟩ prog_1_method_34_code 2 (Option.none : Option FieldType)) ∈ GW := gw_2 (List.mem_of_getElem? (i := 177) rfl) rfl
theorem g_418 : (Cond.methodLink "LathePieces" 136 ⟨"LathePieces$Reach", "passCount", "(III)I"⟩) ∈ GW := gw_2 (List.mem_of_getElem? (i := 178) rfl) rfl
theorem g_419 : (Cond.instanceMethod ⟨"LathePieces$Reach", "passCount", "(III)I"⟩) ∈ GW := gw_2 (List.mem_of_getElem? (i := 179) rfl) rfl
theorem g_420 : (Cond.selects "LathePieces$Reach" ⟨"LathePieces$Reach", "passCount", "(III)I"⟩ ⟨"LathePieces$Reach", "passCount", "(III)I"⟩) ∈ GW := gw_2 (List.mem_of_getElem? (i := 180) rfl) rfl
theorem g_421 : (Cond.code ⟨"LathePieces$Reach", "passCount", "(III)I"⟩ prog_5_method_6_code 6 (Option.some FieldType.int)) ∈ GW := gw_2 (List.mem_of_getElem? (i := 181) rfl) rfl
theorem g_422 : (Cond.methodLink "LathePieces$Reach" 35 ⟨"LathePieces$Reach", "wantedAt", "(III)I"⟩) ∈ GW := gw_2 (List.mem_of_getElem? (i := 182) rfl) rfl
theorem g_423 : (Cond.instanceMethod ⟨"LathePieces$Reach", "wantedAt", "(III)I"⟩) ∈ GW := gw_2 (List.mem_of_getElem? (i := 183) rfl) rfl
theorem g_424 : (Cond.selects "LathePieces$Reach" ⟨"LathePieces$Reach", "wantedAt", "(III)I"⟩ ⟨"LathePieces$Reach", "wantedAt", "(III)I"⟩) ∈ GW := gw_2 (List.mem_of_getElem? (i := 184) rfl) rfl
theorem g_425 : (Cond.code ⟨"LathePieces$Reach", "wantedAt", "(III)I"⟩ prog_5_method_7_code 4 (Option.some FieldType.int)) ∈ GW := gw_2 (List.mem_of_getElem? (i := 185) rfl) rfl
theorem g_426 : (Cond.methodLink "LathePiecesLaw" 149 ⟨"LathePiecesLaw", "cut", "(LLathePieces;IIIII[J)I"⟩) ∈ GW := gw_2 (List.mem_of_getElem? (i := 186) rfl) rfl
theorem g_427 : (Cond.static ⟨"LathePiecesLaw", "cut", "(LLathePieces;IIIII[J)I"⟩) ∈ GW := gw_2 (List.mem_of_getElem? (i := 187) rfl) rfl
theorem g_428 : (Cond.codeWith ⟨"LathePiecesLaw", "cut", "(LLathePieces;IIIII[J)I"⟩ method_13_code 8 (Option.some FieldType.int) [(0, 16, 19, 32), (0, 16, 23, 13)]) ∈ GW := gw_2 (List.mem_of_getElem? (i := 188) rfl) rfl
theorem g_429 : (Cond.methodLink "LathePiecesLaw" 52 ⟨"LathePieces", "cut", "(IIIII)I"⟩) ∈ GW := gw_2 (List.mem_of_getElem? (i := 189) rfl) rfl
theorem g_430 : (Cond.instanceMethod ⟨"LathePieces", "cut", "(IIIII)I"⟩) ∈ GW := gw_2 (List.mem_of_getElem? (i := 190) rfl) rfl
theorem g_431 : (Cond.selects "LathePieces" ⟨"LathePieces", "cut", "(IIIII)I"⟩ ⟨"LathePieces", "cut", "(IIIII)I"⟩) ∈ GW := gw_2 (List.mem_of_getElem? (i := 191) rfl) rfl
theorem g_432 : (Cond.code ⟨"LathePieces", "cut", "(IIIII)I"⟩ prog_1_method_12_code 8 (Option.some FieldType.int)) ∈ GW := gw_2 (List.mem_of_getElem? (i := 192) rfl) rfl
theorem g_433 : (Cond.methodLink "LathePieces" 140 ⟨"LathePieces", "checkNotBelow", "(II)V"⟩) ∈ GW := gw_2 (List.mem_of_getElem? (i := 193) rfl) rfl
theorem g_434 : (Cond.static ⟨"LathePieces", "checkNotBelow", "(II)V"⟩) ∈ GW := gw_2 (List.mem_of_getElem? (i := 194) rfl) rfl
theorem g_435 : (Cond.code ⟨"LathePieces", "checkNotBelow", "(II)V"⟩ prog_1_method_36_code 2 (Option.none : Option FieldType)) ∈ GW := gw_2 (List.mem_of_getElem? (i := 195) rfl) rfl
theorem g_436 : (Cond.stringRef "LathePieces" 268 "a number is too small") ∈ lw_tbl := tb_2 (List.mem_of_getElem? (i := 196) rfl)
theorem g_437 : (Cond.methodLink "LathePieces" 143 ⟨"LathePieces$Reach", "placesCut", "(IIJ)I"⟩) ∈ GW := gw_2 (List.mem_of_getElem? (i := 197) rfl) rfl
theorem g_438 : (Cond.instanceMethod ⟨"LathePieces$Reach", "placesCut", "(IIJ)I"⟩) ∈ GW := gw_2 (List.mem_of_getElem? (i := 198) rfl) rfl
theorem g_439 : (Cond.selects "LathePieces$Reach" ⟨"LathePieces$Reach", "placesCut", "(IIJ)I"⟩ ⟨"LathePieces$Reach", "placesCut", "(IIJ)I"⟩) ∈ GW := gw_2 (List.mem_of_getElem? (i := 199) rfl) rfl
theorem g_440 : (Cond.code ⟨"LathePieces$Reach", "placesCut", "(IIJ)I"⟩ prog_5_method_5_code 7 (Option.some FieldType.int)) ∈ GW := gw_2 (List.mem_of_getElem? (i := 200) rfl) rfl
theorem g_441 : (Cond.methodLink "LathePiecesLaw" 153 ⟨"LathePiecesLaw", "steady", "(LLathePieces;III[J)I"⟩) ∈ GW := gw_2 (List.mem_of_getElem? (i := 201) rfl) rfl
theorem g_442 : (Cond.static ⟨"LathePiecesLaw", "steady", "(LLathePieces;III[J)I"⟩) ∈ GW := gw_2 (List.mem_of_getElem? (i := 202) rfl) rfl
theorem g_443 : (Cond.codeWith ⟨"LathePiecesLaw", "steady", "(LLathePieces;III[J)I"⟩ method_14_code 6 (Option.some FieldType.int) [(0, 12, 15, 32), (0, 12, 19, 13), (0, 12, 23, 19)]) ∈ GW := gw_2 (List.mem_of_getElem? (i := 203) rfl) rfl
theorem g_444 : (Cond.methodLink "LathePiecesLaw" 56 ⟨"LathePieces", "steady", "(III)I"⟩) ∈ GW := gw_2 (List.mem_of_getElem? (i := 204) rfl) rfl
theorem g_445 : (Cond.instanceMethod ⟨"LathePieces", "steady", "(III)I"⟩) ∈ GW := gw_2 (List.mem_of_getElem? (i := 205) rfl) rfl
theorem g_446 : (Cond.selects "LathePieces" ⟨"LathePieces", "steady", "(III)I"⟩ ⟨"LathePieces", "steady", "(III)I"⟩) ∈ GW := gw_2 (List.mem_of_getElem? (i := 206) rfl) rfl
theorem g_447 : (Cond.code ⟨"LathePieces", "steady", "(III)I"⟩ prog_1_method_13_code 8 (Option.some FieldType.int)) ∈ GW := gw_2 (List.mem_of_getElem? (i := 207) rfl) rfl
theorem g_448 : (Cond.methodLink "LathePieces" 147 ⟨"java/lang/Math", "min", "(II)I"⟩) ∈ GW := gw_2 (List.mem_of_getElem? (i := 208) rfl) rfl
theorem g_449 : (Cond.methodLink "LathePieces" 152 ⟨"LathePieces$Piece", "heldBehind", "(II)I"⟩) ∈ GW := gw_2 (List.mem_of_getElem? (i := 209) rfl) rfl
theorem g_450 : (Cond.instanceMethod ⟨"LathePieces$Piece", "heldBehind", "(II)I"⟩) ∈ GW := gw_2 (List.mem_of_getElem? (i := 210) rfl) rfl
theorem g_451 : (Cond.selects "LathePieces$Piece" ⟨"LathePieces$Piece", "heldBehind", "(II)I"⟩ ⟨"LathePieces$Piece", "heldBehind", "(II)I"⟩) ∈ GW := gw_2 (List.mem_of_getElem? (i := 211) rfl) rfl
theorem g_452 : (Cond.code ⟨"LathePieces$Piece", "heldBehind", "(II)I"⟩ prog_3_method_2_code 6 (Option.some FieldType.int)) ∈ GW := gw_2 (List.mem_of_getElem? (i := 212) rfl) rfl
theorem g_453 : (Cond.methodLink "LathePieces$Piece" 44 ⟨"java/lang/Math", "min", "(II)I"⟩) ∈ GW := gw_2 (List.mem_of_getElem? (i := 213) rfl) rfl
theorem g_454 : (Cond.stringRef "LathePieces" 155 "not so many steadies") ∈ lw_tbl := tb_2 (List.mem_of_getElem? (i := 214) rfl)
theorem g_455 : (Cond.methodLink "LathePiecesLaw" 156 ⟨"LathePiecesLaw", "volume", "(LLathePieces;IZ[J)I"⟩) ∈ GW := gw_2 (List.mem_of_getElem? (i := 215) rfl) rfl
theorem g_456 : (Cond.static ⟨"LathePiecesLaw", "volume", "(LLathePieces;IZ[J)I"⟩) ∈ GW := gw_2 (List.mem_of_getElem? (i := 216) rfl) rfl
theorem g_457 : (Cond.codeWith ⟨"LathePiecesLaw", "volume", "(LLathePieces;IZ[J)I"⟩ method_15_code 5 (Option.some FieldType.int) [(0, 9, 12, 32)]) ∈ GW := gw_2 (List.mem_of_getElem? (i := 217) rfl) rfl
theorem g_458 : (Cond.methodLink "LathePiecesLaw" 59 ⟨"LathePieces", "volume", "(IZ)J"⟩) ∈ GW := gw_2 (List.mem_of_getElem? (i := 218) rfl) rfl
theorem g_459 : (Cond.instanceMethod ⟨"LathePieces", "volume", "(IZ)J"⟩) ∈ GW := gw_2 (List.mem_of_getElem? (i := 219) rfl) rfl
theorem g_460 : (Cond.selects "LathePieces" ⟨"LathePieces", "volume", "(IZ)J"⟩ ⟨"LathePieces", "volume", "(IZ)J"⟩) ∈ GW := gw_2 (List.mem_of_getElem? (i := 220) rfl) rfl
theorem g_461 : (Cond.code ⟨"LathePieces", "volume", "(IZ)J"⟩ prog_1_method_14_code 5 (Option.some FieldType.long)) ∈ GW := gw_2 (List.mem_of_getElem? (i := 221) rfl) rfl
theorem g_462 : (Cond.methodLink "LathePieces" 157 ⟨"LathePieces$Piece", "sumOfSquares", "(Z)J"⟩) ∈ GW := gw_2 (List.mem_of_getElem? (i := 222) rfl) rfl
theorem g_463 : (Cond.instanceMethod ⟨"LathePieces$Piece", "sumOfSquares", "(Z)J"⟩) ∈ GW := gw_2 (List.mem_of_getElem? (i := 223) rfl) rfl
theorem g_464 : (Cond.selects "LathePieces$Piece" ⟨"LathePieces$Piece", "sumOfSquares", "(Z)J"⟩ ⟨"LathePieces$Piece", "sumOfSquares", "(Z)J"⟩) ∈ GW := gw_2 (List.mem_of_getElem? (i := 224) rfl) rfl
theorem g_465 : (Cond.code ⟨"LathePieces$Piece", "sumOfSquares", "(Z)J"⟩ prog_3_method_3_code 7 (Option.some FieldType.long)) ∈ GW := gw_2 (List.mem_of_getElem? (i := 225) rfl) rfl
theorem g_466 : (Cond.constantLong "LathePieces" 161 (314160 : Int64)) ∈ GW := gw_2 (List.mem_of_getElem? (i := 226) rfl) rfl
theorem g_467 : (Cond.constantLong "LathePieces" 163 (100000 : Int64)) ∈ GW := gw_2 (List.mem_of_getElem? (i := 227) rfl) rfl
theorem g_468 : (Cond.constantLong "LathePieces" 165 (314159 : Int64)) ∈ GW := gw_2 (List.mem_of_getElem? (i := 228) rfl) rfl
theorem g_469 : (Cond.methodLink "LathePiecesLaw" 160 ⟨"LathePiecesLaw", "hollow", "(LLathePieces;III[J)I"⟩) ∈ GW := gw_2 (List.mem_of_getElem? (i := 229) rfl) rfl
theorem g_470 : (Cond.static ⟨"LathePiecesLaw", "hollow", "(LLathePieces;III[J)I"⟩) ∈ GW := gw_2 (List.mem_of_getElem? (i := 230) rfl) rfl
theorem g_471 : (Cond.codeWith ⟨"LathePiecesLaw", "hollow", "(LLathePieces;III[J)I"⟩ method_16_code 6 (Option.some FieldType.int) [(0, 12, 15, 32), (0, 12, 19, 13)]) ∈ GW := gw_2 (List.mem_of_getElem? (i := 231) rfl) rfl
theorem g_472 : (Cond.methodLink "LathePiecesLaw" 63 ⟨"LathePieces", "hollow", "(III)I"⟩) ∈ GW := gw_2 (List.mem_of_getElem? (i := 232) rfl) rfl
theorem g_473 : (Cond.instanceMethod ⟨"LathePieces", "hollow", "(III)I"⟩) ∈ GW := gw_2 (List.mem_of_getElem? (i := 233) rfl) rfl
theorem g_474 : (Cond.selects "LathePieces" ⟨"LathePieces", "hollow", "(III)I"⟩ ⟨"LathePieces", "hollow", "(III)I"⟩) ∈ GW := gw_2 (List.mem_of_getElem? (i := 234) rfl) rfl
theorem g_475 : (Cond.code ⟨"LathePieces", "hollow", "(III)I"⟩ prog_1_method_15_code 5 (Option.some FieldType.int)) ∈ GW := gw_2 (List.mem_of_getElem? (i := 235) rfl) rfl
theorem g_476 : (Cond.methodLink "LathePieces" 167 ⟨"LathePieces$Piece", "lastPlacesFrom", "(I)I"⟩) ∈ GW := gw_2 (List.mem_of_getElem? (i := 236) rfl) rfl
theorem g_477 : (Cond.instanceMethod ⟨"LathePieces$Piece", "lastPlacesFrom", "(I)I"⟩) ∈ GW := gw_2 (List.mem_of_getElem? (i := 237) rfl) rfl
theorem g_478 : (Cond.selects "LathePieces$Piece" ⟨"LathePieces$Piece", "lastPlacesFrom", "(I)I"⟩ ⟨"LathePieces$Piece", "lastPlacesFrom", "(I)I"⟩) ∈ GW := gw_2 (List.mem_of_getElem? (i := 238) rfl) rfl
theorem g_479 : (Cond.code ⟨"LathePieces$Piece", "lastPlacesFrom", "(I)I"⟩ prog_3_method_4_code 4 (Option.some FieldType.int)) ∈ GW := gw_2 (List.mem_of_getElem? (i := 239) rfl) rfl
theorem g_480 : (Cond.methodLink "LathePiecesLaw" 163 ⟨"LathePiecesLaw", "copy", "(LLathePieces;II[J)I"⟩) ∈ GW := gw_3 (List.mem_of_getElem? (i := 0) rfl) rfl
theorem g_481 : (Cond.static ⟨"LathePiecesLaw", "copy", "(LLathePieces;II[J)I"⟩) ∈ GW := gw_3 (List.mem_of_getElem? (i := 1) rfl) rfl
theorem g_482 : (Cond.codeWith ⟨"LathePiecesLaw", "copy", "(LLathePieces;II[J)I"⟩ method_17_code 5 (Option.some FieldType.int) [(0, 10, 13, 32)]) ∈ GW := gw_3 (List.mem_of_getElem? (i := 2) rfl) rfl
theorem g_483 : (Cond.methodLink "LathePiecesLaw" 66 ⟨"LathePieces", "copy", "(II)I"⟩) ∈ GW := gw_3 (List.mem_of_getElem? (i := 3) rfl) rfl
theorem g_484 : (Cond.instanceMethod ⟨"LathePieces", "copy", "(II)I"⟩) ∈ GW := gw_3 (List.mem_of_getElem? (i := 4) rfl) rfl
theorem g_485 : (Cond.selects "LathePieces" ⟨"LathePieces", "copy", "(II)I"⟩ ⟨"LathePieces", "copy", "(II)I"⟩) ∈ GW := gw_3 (List.mem_of_getElem? (i := 5) rfl) rfl
theorem g_486 : (Cond.code ⟨"LathePieces", "copy", "(II)I"⟩ prog_1_method_16_code 3 (Option.some FieldType.int)) ∈ GW := gw_3 (List.mem_of_getElem? (i := 6) rfl) rfl
theorem g_487 : (Cond.methodLink "LathePieces" 171 ⟨"LathePieces$Piece", "greatestDifference", "(LLathePieces$Piece;)I"⟩) ∈ GW := gw_3 (List.mem_of_getElem? (i := 7) rfl) rfl
theorem g_488 : (Cond.instanceMethod ⟨"LathePieces$Piece", "greatestDifference", "(LLathePieces$Piece;)I"⟩) ∈ GW := gw_3 (List.mem_of_getElem? (i := 8) rfl) rfl
theorem g_489 : (Cond.selects "LathePieces$Piece" ⟨"LathePieces$Piece", "greatestDifference", "(LLathePieces$Piece;)I"⟩ ⟨"LathePieces$Piece", "greatestDifference", "(LLathePieces$Piece;)I"⟩) ∈ GW := gw_3 (List.mem_of_getElem? (i := 9) rfl) rfl
theorem g_490 : (Cond.code ⟨"LathePieces$Piece", "greatestDifference", "(LLathePieces$Piece;)I"⟩ prog_3_method_5_code 4 (Option.some FieldType.int)) ∈ GW := gw_3 (List.mem_of_getElem? (i := 10) rfl) rfl
theorem g_491 : (Cond.methodLink "LathePieces$Piece" 47 ⟨"java/lang/Math", "abs", "(I)I"⟩) ∈ GW := gw_3 (List.mem_of_getElem? (i := 11) rfl) rfl
theorem g_492 : (Cond.methodLink "LathePiecesLaw" 166 ⟨"LathePiecesLaw", "ring", "(LLathePieces;[J)I"⟩) ∈ GW := gw_3 (List.mem_of_getElem? (i := 12) rfl) rfl
theorem g_493 : (Cond.static ⟨"LathePiecesLaw", "ring", "(LLathePieces;[J)I"⟩) ∈ GW := gw_3 (List.mem_of_getElem? (i := 13) rfl) rfl
theorem g_494 : (Cond.codeWith ⟨"LathePiecesLaw", "ring", "(LLathePieces;[J)I"⟩ method_18_code 3 (Option.some FieldType.int) [(0, 8, 11, 19)]) ∈ GW := gw_3 (List.mem_of_getElem? (i := 14) rfl) rfl
theorem g_495 : (Cond.methodLink "LathePiecesLaw" 69 ⟨"LathePieces", "ring", "()I"⟩) ∈ GW := gw_3 (List.mem_of_getElem? (i := 15) rfl) rfl
theorem g_496 : (Cond.instanceMethod ⟨"LathePieces", "ring", "()I"⟩) ∈ GW := gw_3 (List.mem_of_getElem? (i := 16) rfl) rfl
theorem g_497 : (Cond.selects "LathePieces" ⟨"LathePieces", "ring", "()I"⟩ ⟨"LathePieces", "ring", "()I"⟩) ∈ GW := gw_3 (List.mem_of_getElem? (i := 17) rfl) rfl
theorem g_498 : (Cond.code ⟨"LathePieces", "ring", "()I"⟩ prog_1_method_17_code 1 (Option.some FieldType.int)) ∈ GW := gw_3 (List.mem_of_getElem? (i := 18) rfl) rfl
theorem g_499 : (Cond.stringRef "LathePieces" 178 "no room for a ring") ∈ lw_tbl := tb_3 (List.mem_of_getElem? (i := 19) rfl)
theorem g_500 : (Cond.instantiable "LathePieces$Ring" 4) ∈ GW := gw_3 (List.mem_of_getElem? (i := 20) rfl) rfl
theorem g_501 : (Cond.methodLinkNest "LathePieces" 180 ⟨"LathePieces$Ring", "<init>", "()V"⟩ "LathePieces") ∈ lw_tbl := tb_3 (List.mem_of_getElem? (i := 21) rfl)
theorem g_502 : (Cond.instanceMethod ⟨"LathePieces$Ring", "<init>", "()V"⟩) ∈ GW := gw_3 (List.mem_of_getElem? (i := 22) rfl) rfl
theorem g_503 : (Cond.code ⟨"LathePieces$Ring", "<init>", "()V"⟩ prog_6_method_1_code 1 (Option.none : Option FieldType)) ∈ GW := gw_3 (List.mem_of_getElem? (i := 23) rfl) rfl
theorem g_504 : (Cond.methodLink "LathePieces$Ring" 3 ⟨"java/lang/Object", "<init>", "()V"⟩) ∈ GW := gw_3 (List.mem_of_getElem? (i := 24) rfl) rfl
theorem g_505 : (Cond.fieldLink "LathePieces$Ring" 9 "LathePieces$Ring" "aboves" "[I") ∈ GW := gw_3 (List.mem_of_getElem? (i := 25) rfl) rfl
theorem g_506 : (Cond.fieldLink "LathePieces" 198 "LathePieces$Ring" "aboves" "[I") ∈ GW := gw_3 (List.mem_of_getElem? (i := 26) rfl) rfl
theorem g_507 : (Cond.fieldLink "LathePieces$Ring" 15 "LathePieces$Ring" "belows" "[I") ∈ GW := gw_3 (List.mem_of_getElem? (i := 27) rfl) rfl
theorem g_508 : (Cond.fieldLink "LathePieces" 203 "LathePieces$Ring" "belows" "[I") ∈ GW := gw_3 (List.mem_of_getElem? (i := 28) rfl) rfl
theorem g_509 : (Cond.fieldLink "LathePieces$Ring" 18 "LathePieces$Ring" "count" "I") ∈ GW := gw_3 (List.mem_of_getElem? (i := 29) rfl) rfl
theorem g_510 : (Cond.fieldLink "LathePieces" 185 "LathePieces$Ring" "count" "I") ∈ GW := gw_3 (List.mem_of_getElem? (i := 30) rfl) rfl
theorem g_511 : (Cond.fieldLink "LathePieces$Ring" 22 "LathePieces$Ring" "sumParts" "J") ∈ GW := gw_3 (List.mem_of_getElem? (i := 31) rfl) rfl
theorem g_512 : (Cond.laysFinal "LathePieces$Ring" "LathePieces$Ring" "aboves" "[I") ∈ GW := gw_3 (List.mem_of_getElem? (i := 32) rfl) rfl
theorem g_513 : (Cond.soleField "LathePieces$Ring" "aboves") ∈ GW := gw_3 (List.mem_of_getElem? (i := 33) rfl) rfl
theorem g_514 : (Cond.laysFinal "LathePieces$Ring" "LathePieces$Ring" "belows" "[I") ∈ GW := gw_3 (List.mem_of_getElem? (i := 34) rfl) rfl
theorem g_515 : (Cond.soleField "LathePieces$Ring" "belows") ∈ GW := gw_3 (List.mem_of_getElem? (i := 35) rfl) rfl
theorem g_516 : (Cond.lays "LathePieces$Ring" "LathePieces$Ring" "count" "I") ∈ GW := gw_3 (List.mem_of_getElem? (i := 36) rfl) rfl
theorem g_517 : (Cond.soleField "LathePieces$Ring" "count") ∈ GW := gw_3 (List.mem_of_getElem? (i := 37) rfl) rfl
theorem g_518 : (Cond.lays "LathePieces$Ring" "LathePieces$Ring" "sumParts" "J") ∈ GW := gw_3 (List.mem_of_getElem? (i := 38) rfl) rfl
theorem g_519 : (Cond.soleField "LathePieces$Ring" "sumParts") ∈ GW := gw_3 (List.mem_of_getElem? (i := 39) rfl) rfl
theorem g_520 : (Cond.superclass "LathePieces$Ring" "java/lang/Object") ∈ GW := gw_3 (List.mem_of_getElem? (i := 40) rfl) rfl
theorem g_521 : (Cond.methodLink "LathePiecesLaw" 169 ⟨"LathePiecesLaw", "wedge", "(LLathePieces;III[J)I"⟩) ∈ GW := gw_3 (List.mem_of_getElem? (i := 41) rfl) rfl
theorem g_522 : (Cond.static ⟨"LathePiecesLaw", "wedge", "(LLathePieces;III[J)I"⟩) ∈ GW := gw_3 (List.mem_of_getElem? (i := 42) rfl) rfl
theorem g_523 : (Cond.codeWith ⟨"LathePiecesLaw", "wedge", "(LLathePieces;III[J)I"⟩ method_19_code 6 (Option.some FieldType.int) [(0, 12, 15, 32), (0, 12, 19, 13), (0, 12, 23, 19)]) ∈ GW := gw_3 (List.mem_of_getElem? (i := 43) rfl) rfl
theorem g_524 : (Cond.methodLink "LathePiecesLaw" 72 ⟨"LathePieces", "wedge", "(III)I"⟩) ∈ GW := gw_3 (List.mem_of_getElem? (i := 44) rfl) rfl
theorem g_525 : (Cond.instanceMethod ⟨"LathePieces", "wedge", "(III)I"⟩) ∈ GW := gw_3 (List.mem_of_getElem? (i := 45) rfl) rfl
theorem g_526 : (Cond.selects "LathePieces" ⟨"LathePieces", "wedge", "(III)I"⟩ ⟨"LathePieces", "wedge", "(III)I"⟩) ∈ GW := gw_3 (List.mem_of_getElem? (i := 46) rfl) rfl
theorem g_527 : (Cond.code ⟨"LathePieces", "wedge", "(III)I"⟩ prog_1_method_18_code 5 (Option.some FieldType.int)) ∈ GW := gw_3 (List.mem_of_getElem? (i := 47) rfl) rfl
theorem g_528 : (Cond.methodLink "LathePieces" 181 ⟨"LathePieces", "ringAt", "(I)LLathePieces$Ring;"⟩) ∈ GW := gw_3 (List.mem_of_getElem? (i := 48) rfl) rfl
theorem g_529 : (Cond.privateMethod ⟨"LathePieces", "ringAt", "(I)LLathePieces$Ring;"⟩) ∈ lw_tbl := tb_3 (List.mem_of_getElem? (i := 49) rfl)
theorem g_530 : (Cond.instanceMethod ⟨"LathePieces", "ringAt", "(I)LLathePieces$Ring;"⟩) ∈ GW := gw_3 (List.mem_of_getElem? (i := 50) rfl) rfl
theorem g_531 : (Cond.code ⟨"LathePieces", "ringAt", "(I)LLathePieces$Ring;"⟩ prog_1_method_29_code 3 (Option.some (FieldType.object "LathePieces$Ring"))) ∈ GW := gw_3 (List.mem_of_getElem? (i := 51) rfl) rfl
theorem g_532 : (Cond.stringRef "LathePieces" 243 "no such ring") ∈ lw_tbl := tb_3 (List.mem_of_getElem? (i := 52) rfl)
theorem g_533 : (Cond.stringRef "LathePieces" 188 "no room for a wedge") ∈ lw_tbl := tb_3 (List.mem_of_getElem? (i := 53) rfl)
theorem g_534 : (Cond.methodLink "LathePieces" 190 ⟨"LathePieces$Ring", "addWedge", "(II)V"⟩) ∈ GW := gw_3 (List.mem_of_getElem? (i := 54) rfl) rfl
theorem g_535 : (Cond.instanceMethod ⟨"LathePieces$Ring", "addWedge", "(II)V"⟩) ∈ GW := gw_3 (List.mem_of_getElem? (i := 55) rfl) rfl
theorem g_536 : (Cond.selects "LathePieces$Ring" ⟨"LathePieces$Ring", "addWedge", "(II)V"⟩ ⟨"LathePieces$Ring", "addWedge", "(II)V"⟩) ∈ GW := gw_3 (List.mem_of_getElem? (i := 56) rfl) rfl
theorem g_537 : (Cond.code ⟨"LathePieces$Ring", "addWedge", "(II)V"⟩ prog_6_method_2_code 3 (Option.none : Option FieldType)) ∈ GW := gw_3 (List.mem_of_getElem? (i := 57) rfl) rfl
theorem g_538 : (Cond.methodLink "LathePiecesLaw" 172 ⟨"LathePiecesLaw", "mitre", "(LLathePieces;III[J)I"⟩) ∈ GW := gw_3 (List.mem_of_getElem? (i := 58) rfl) rfl
theorem g_539 : (Cond.static ⟨"LathePiecesLaw", "mitre", "(LLathePieces;III[J)I"⟩) ∈ GW := gw_3 (List.mem_of_getElem? (i := 59) rfl) rfl
theorem g_540 : (Cond.codeWith ⟨"LathePiecesLaw", "mitre", "(LLathePieces;III[J)I"⟩ method_20_code 6 (Option.some FieldType.int) [(0, 11, 14, 32)]) ∈ GW := gw_3 (List.mem_of_getElem? (i := 60) rfl) rfl
theorem g_541 : (Cond.methodLink "LathePiecesLaw" 75 ⟨"LathePieces", "mitre", "(III)J"⟩) ∈ GW := gw_3 (List.mem_of_getElem? (i := 61) rfl) rfl
theorem g_542 : (Cond.instanceMethod ⟨"LathePieces", "mitre", "(III)J"⟩) ∈ GW := gw_3 (List.mem_of_getElem? (i := 62) rfl) rfl
theorem g_543 : (Cond.selects "LathePieces" ⟨"LathePieces", "mitre", "(III)J"⟩ ⟨"LathePieces", "mitre", "(III)J"⟩) ∈ GW := gw_3 (List.mem_of_getElem? (i := 63) rfl) rfl
theorem g_544 : (Cond.code ⟨"LathePieces", "mitre", "(III)J"⟩ prog_1_method_19_code 5 (Option.some FieldType.long)) ∈ GW := gw_3 (List.mem_of_getElem? (i := 64) rfl) rfl
theorem g_545 : (Cond.stringRef "LathePieces" 193 "no such wedge") ∈ lw_tbl := tb_3 (List.mem_of_getElem? (i := 65) rfl)
theorem g_546 : (Cond.methodLink "LathePieces" 195 ⟨"LathePieces", "checkPart", "(I)V"⟩) ∈ GW := gw_3 (List.mem_of_getElem? (i := 66) rfl) rfl
theorem g_547 : (Cond.static ⟨"LathePieces", "checkPart", "(I)V"⟩) ∈ GW := gw_3 (List.mem_of_getElem? (i := 67) rfl) rfl
theorem g_548 : (Cond.code ⟨"LathePieces", "checkPart", "(I)V"⟩ prog_1_method_37_code 1 (Option.none : Option FieldType)) ∈ GW := gw_3 (List.mem_of_getElem? (i := 68) rfl) rfl
theorem g_549 : (Cond.stringRef "LathePieces" 270 "no such part") ∈ lw_tbl := tb_3 (List.mem_of_getElem? (i := 69) rfl)
theorem g_550 : (Cond.constantLong "LathePieces" 201 (2 : Int64)) ∈ GW := gw_3 (List.mem_of_getElem? (i := 70) rfl) rfl
theorem g_551 : (Cond.methodLink "LathePieces" 206 ⟨"LathePieces", "fractionPart", "(JJI)J"⟩) ∈ GW := gw_3 (List.mem_of_getElem? (i := 71) rfl) rfl
theorem g_552 : (Cond.static ⟨"LathePieces", "fractionPart", "(JJI)J"⟩) ∈ GW := gw_3 (List.mem_of_getElem? (i := 72) rfl) rfl
theorem g_553 : (Cond.code ⟨"LathePieces", "fractionPart", "(JJI)J"⟩ prog_1_method_38_code 7 (Option.some FieldType.long)) ∈ GW := gw_3 (List.mem_of_getElem? (i := 73) rfl) rfl
theorem g_554 : (Cond.methodLink "LathePieces" 272 ⟨"java/lang/Math", "abs", "(J)J"⟩) ∈ GW := gw_3 (List.mem_of_getElem? (i := 74) rfl) rfl
theorem g_555 : (Cond.static ⟨"java/lang/Math", "abs", "(J)J"⟩) ∈ GW := gw_3 (List.mem_of_getElem? (i := 75) rfl) rfl
theorem g_556 : (Cond.code ⟨"java/lang/Math", "abs", "(J)J"⟩ prog_14_method_61_code 2 (Option.some FieldType.long)) ∈ GW := gw_3 (List.mem_of_getElem? (i := 76) rfl) rfl
theorem g_557 : (Cond.methodLink "LathePieces" 276 ⟨"LathePieces", "commonDivisor", "(JJ)J"⟩) ∈ GW := gw_3 (List.mem_of_getElem? (i := 77) rfl) rfl
theorem g_558 : (Cond.static ⟨"LathePieces", "commonDivisor", "(JJ)J"⟩) ∈ GW := gw_3 (List.mem_of_getElem? (i := 78) rfl) rfl
theorem g_559 : (Cond.code ⟨"LathePieces", "commonDivisor", "(JJ)J"⟩ prog_1_method_39_code 7 (Option.some FieldType.long)) ∈ GW := gw_3 (List.mem_of_getElem? (i := 79) rfl) rfl
theorem g_560 : (Cond.methodLink "LathePiecesLaw" 175 ⟨"LathePiecesLaw", "gap", "(LLathePieces;II[J)I"⟩) ∈ GW := gw_3 (List.mem_of_getElem? (i := 80) rfl) rfl
theorem g_561 : (Cond.static ⟨"LathePiecesLaw", "gap", "(LLathePieces;II[J)I"⟩) ∈ GW := gw_3 (List.mem_of_getElem? (i := 81) rfl) rfl
theorem g_562 : (Cond.codeWith ⟨"LathePiecesLaw", "gap", "(LLathePieces;II[J)I"⟩ method_21_code 5 (Option.some FieldType.int) [(0, 9, 12, 32)]) ∈ GW := gw_3 (List.mem_of_getElem? (i := 82) rfl) rfl
theorem g_563 : (Cond.methodLink "LathePiecesLaw" 79 ⟨"LathePieces", "gap", "(II)J"⟩) ∈ GW := gw_3 (List.mem_of_getElem? (i := 83) rfl) rfl
theorem g_564 : (Cond.instanceMethod ⟨"LathePieces", "gap", "(II)J"⟩) ∈ GW := gw_3 (List.mem_of_getElem? (i := 84) rfl) rfl
theorem g_565 : (Cond.selects "LathePieces" ⟨"LathePieces", "gap", "(II)J"⟩ ⟨"LathePieces", "gap", "(II)J"⟩) ∈ GW := gw_3 (List.mem_of_getElem? (i := 85) rfl) rfl
theorem g_566 : (Cond.code ⟨"LathePieces", "gap", "(II)J"⟩ prog_1_method_20_code 4 (Option.some FieldType.long)) ∈ GW := gw_3 (List.mem_of_getElem? (i := 86) rfl) rfl
theorem g_567 : (Cond.methodLink "LathePieces" 210 ⟨"LathePieces$Ring", "gapParts", "()J"⟩) ∈ GW := gw_3 (List.mem_of_getElem? (i := 87) rfl) rfl
theorem g_568 : (Cond.instanceMethod ⟨"LathePieces$Ring", "gapParts", "()J"⟩) ∈ GW := gw_3 (List.mem_of_getElem? (i := 88) rfl) rfl
theorem g_569 : (Cond.selects "LathePieces$Ring" ⟨"LathePieces$Ring", "gapParts", "()J"⟩ ⟨"LathePieces$Ring", "gapParts", "()J"⟩) ∈ GW := gw_3 (List.mem_of_getElem? (i := 89) rfl) rfl
theorem g_570 : (Cond.code ⟨"LathePieces$Ring", "gapParts", "()J"⟩ prog_6_method_3_code 1 (Option.some FieldType.long)) ∈ GW := gw_3 (List.mem_of_getElem? (i := 90) rfl) rfl
theorem g_571 : (Cond.constantLong "LathePieces$Ring" 26 (9979200 : Int64)) ∈ GW := gw_3 (List.mem_of_getElem? (i := 91) rfl) rfl
theorem g_572 : (Cond.constantLong "LathePieces" 214 (27720 : Int64)) ∈ GW := gw_3 (List.mem_of_getElem? (i := 92) rfl) rfl
theorem g_573 : (Cond.methodLink "LathePiecesLaw" 178 ⟨"LathePiecesLaw", "closes", "(LLathePieces;I[J)I"⟩) ∈ GW := gw_3 (List.mem_of_getElem? (i := 93) rfl) rfl
theorem g_574 : (Cond.static ⟨"LathePiecesLaw", "closes", "(LLathePieces;I[J)I"⟩) ∈ GW := gw_3 (List.mem_of_getElem? (i := 94) rfl) rfl
theorem g_575 : (Cond.codeWith ⟨"LathePiecesLaw", "closes", "(LLathePieces;I[J)I"⟩ method_22_code 4 (Option.some FieldType.int) [(0, 16, 19, 32)]) ∈ GW := gw_3 (List.mem_of_getElem? (i := 95) rfl) rfl
theorem g_576 : (Cond.methodLink "LathePiecesLaw" 83 ⟨"LathePieces", "closes", "(I)Z"⟩) ∈ GW := gw_3 (List.mem_of_getElem? (i := 96) rfl) rfl
theorem g_577 : (Cond.instanceMethod ⟨"LathePieces", "closes", "(I)Z"⟩) ∈ GW := gw_3 (List.mem_of_getElem? (i := 97) rfl) rfl
theorem g_578 : (Cond.selects "LathePieces" ⟨"LathePieces", "closes", "(I)Z"⟩ ⟨"LathePieces", "closes", "(I)Z"⟩) ∈ GW := gw_3 (List.mem_of_getElem? (i := 98) rfl) rfl
theorem g_579 : (Cond.code ⟨"LathePieces", "closes", "(I)Z"⟩ prog_1_method_21_code 2 (Option.some FieldType.boolean)) ∈ GW := gw_3 (List.mem_of_getElem? (i := 99) rfl) rfl
theorem g_580 : (Cond.methodLink "LathePiecesLaw" 181 ⟨"LathePiecesLaw", "flute", "(LLathePieces;III[J)I"⟩) ∈ GW := gw_3 (List.mem_of_getElem? (i := 100) rfl) rfl
theorem g_581 : (Cond.static ⟨"LathePiecesLaw", "flute", "(LLathePieces;III[J)I"⟩) ∈ GW := gw_3 (List.mem_of_getElem? (i := 101) rfl) rfl
theorem g_582 : (Cond.codeWith ⟨"LathePiecesLaw", "flute", "(LLathePieces;III[J)I"⟩ method_23_code 6 (Option.some FieldType.int) [(0, 11, 14, 32), (0, 11, 18, 13)]) ∈ GW := gw_3 (List.mem_of_getElem? (i := 102) rfl) rfl
theorem g_583 : (Cond.methodLink "LathePiecesLaw" 87 ⟨"LathePieces", "flute", "(III)J"⟩) ∈ GW := gw_3 (List.mem_of_getElem? (i := 103) rfl) rfl
theorem g_584 : (Cond.instanceMethod ⟨"LathePieces", "flute", "(III)J"⟩) ∈ GW := gw_3 (List.mem_of_getElem? (i := 104) rfl) rfl
theorem g_585 : (Cond.selects "LathePieces" ⟨"LathePieces", "flute", "(III)J"⟩ ⟨"LathePieces", "flute", "(III)J"⟩) ∈ GW := gw_3 (List.mem_of_getElem? (i := 105) rfl) rfl
theorem g_586 : (Cond.code ⟨"LathePieces", "flute", "(III)J"⟩ prog_1_method_22_code 4 (Option.some FieldType.long)) ∈ GW := gw_3 (List.mem_of_getElem? (i := 106) rfl) rfl
theorem g_587 : (Cond.constantLong "LathePieces" 216 (360 : Int64)) ∈ GW := gw_3 (List.mem_of_getElem? (i := 107) rfl) rfl
theorem g_588 : (Cond.methodLink "LathePiecesLaw" 184 ⟨"LathePiecesLaw", "thread", "(LLathePieces;II)I"⟩) ∈ GW := gw_3 (List.mem_of_getElem? (i := 108) rfl) rfl
theorem g_589 : (Cond.static ⟨"LathePiecesLaw", "thread", "(LLathePieces;II)I"⟩) ∈ GW := gw_3 (List.mem_of_getElem? (i := 109) rfl) rfl
theorem g_590 : (Cond.codeWith ⟨"LathePiecesLaw", "thread", "(LLathePieces;II)I"⟩ method_24_code 4 (Option.some FieldType.int) [(0, 6, 9, 13)]) ∈ GW := gw_3 (List.mem_of_getElem? (i := 110) rfl) rfl
theorem g_591 : (Cond.methodLink "LathePiecesLaw" 90 ⟨"LathePieces", "thread", "(II)V"⟩) ∈ GW := gw_3 (List.mem_of_getElem? (i := 111) rfl) rfl
theorem g_592 : (Cond.instanceMethod ⟨"LathePieces", "thread", "(II)V"⟩) ∈ GW := gw_3 (List.mem_of_getElem? (i := 112) rfl) rfl
theorem g_593 : (Cond.selects "LathePieces" ⟨"LathePieces", "thread", "(II)V"⟩ ⟨"LathePieces", "thread", "(II)V"⟩) ∈ GW := gw_3 (List.mem_of_getElem? (i := 113) rfl) rfl
theorem g_594 : (Cond.code ⟨"LathePieces", "thread", "(II)V"⟩ prog_1_method_23_code 3 (Option.none : Option FieldType)) ∈ GW := gw_3 (List.mem_of_getElem? (i := 114) rfl) rfl
theorem g_595 : (Cond.methodLink "LathePiecesLaw" 188 ⟨"LathePiecesLaw", "threadAt", "(LLathePieces;II[J)I"⟩) ∈ GW := gw_3 (List.mem_of_getElem? (i := 115) rfl) rfl
theorem g_596 : (Cond.static ⟨"LathePiecesLaw", "threadAt", "(LLathePieces;II[J)I"⟩) ∈ GW := gw_3 (List.mem_of_getElem? (i := 116) rfl) rfl
theorem g_597 : (Cond.codeWith ⟨"LathePiecesLaw", "threadAt", "(LLathePieces;II[J)I"⟩ method_25_code 5 (Option.some FieldType.int) [(0, 9, 12, 32), (0, 9, 16, 13), (0, 9, 20, 19)]) ∈ GW := gw_3 (List.mem_of_getElem? (i := 117) rfl) rfl
theorem g_598 : (Cond.methodLink "LathePiecesLaw" 94 ⟨"LathePieces", "threadAt", "(II)J"⟩) ∈ GW := gw_3 (List.mem_of_getElem? (i := 118) rfl) rfl
theorem g_599 : (Cond.instanceMethod ⟨"LathePieces", "threadAt", "(II)J"⟩) ∈ GW := gw_3 (List.mem_of_getElem? (i := 119) rfl) rfl
theorem g_600 : (Cond.selects "LathePieces" ⟨"LathePieces", "threadAt", "(II)J"⟩ ⟨"LathePieces", "threadAt", "(II)J"⟩) ∈ GW := gw_3 (List.mem_of_getElem? (i := 120) rfl) rfl
theorem g_601 : (Cond.code ⟨"LathePieces", "threadAt", "(II)J"⟩ prog_1_method_24_code 3 (Option.some FieldType.long)) ∈ GW := gw_3 (List.mem_of_getElem? (i := 121) rfl) rfl
theorem g_602 : (Cond.constant "LathePieces" 224 (100000 : Int32)) ∈ GW := gw_3 (List.mem_of_getElem? (i := 122) rfl) rfl
theorem g_603 : (Cond.stringRef "LathePieces" 225 "no pitch") ∈ lw_tbl := tb_3 (List.mem_of_getElem? (i := 123) rfl)
theorem g_604 : (Cond.methodLink "LathePiecesLaw" 191 ⟨"LathePiecesLaw", "row", "(LLathePieces;II[J)I"⟩) ∈ GW := gw_3 (List.mem_of_getElem? (i := 124) rfl) rfl
theorem g_605 : (Cond.static ⟨"LathePiecesLaw", "row", "(LLathePieces;II[J)I"⟩) ∈ GW := gw_3 (List.mem_of_getElem? (i := 125) rfl) rfl
theorem g_606 : (Cond.codeWith ⟨"LathePiecesLaw", "row", "(LLathePieces;II[J)I"⟩ method_26_code 5 (Option.some FieldType.int) [(0, 10, 13, 13), (0, 10, 17, 19)]) ∈ GW := gw_3 (List.mem_of_getElem? (i := 126) rfl) rfl
theorem g_607 : (Cond.methodLink "LathePiecesLaw" 97 ⟨"LathePieces", "row", "(II)I"⟩) ∈ GW := gw_3 (List.mem_of_getElem? (i := 127) rfl) rfl
theorem g_608 : (Cond.instanceMethod ⟨"LathePieces", "row", "(II)I"⟩) ∈ GW := gw_3 (List.mem_of_getElem? (i := 128) rfl) rfl
theorem g_609 : (Cond.selects "LathePieces" ⟨"LathePieces", "row", "(II)I"⟩ ⟨"LathePieces", "row", "(II)I"⟩) ∈ GW := gw_3 (List.mem_of_getElem? (i := 129) rfl) rfl
theorem g_610 : (Cond.code ⟨"LathePieces", "row", "(II)I"⟩ prog_1_method_25_code 3 (Option.some FieldType.int)) ∈ GW := gw_3 (List.mem_of_getElem? (i := 130) rfl) rfl
theorem g_611 : (Cond.stringRef "LathePieces" 232 "the radius is not above the one before") ∈ lw_tbl := tb_3 (List.mem_of_getElem? (i := 131) rfl)
theorem g_612 : (Cond.stringRef "LathePieces" 235 "no room for a row") ∈ lw_tbl := tb_3 (List.mem_of_getElem? (i := 132) rfl)
theorem g_613 : (Cond.methodLink "LathePiecesLaw" 194 ⟨"LathePiecesLaw", "speed", "(LLathePieces;II[J)I"⟩) ∈ GW := gw_3 (List.mem_of_getElem? (i := 133) rfl) rfl
theorem g_614 : (Cond.static ⟨"LathePiecesLaw", "speed", "(LLathePieces;II[J)I"⟩) ∈ GW := gw_3 (List.mem_of_getElem? (i := 134) rfl) rfl
theorem g_615 : (Cond.codeWith ⟨"LathePiecesLaw", "speed", "(LLathePieces;II[J)I"⟩ method_27_code 5 (Option.some FieldType.int) [(0, 10, 13, 32), (0, 10, 17, 19)]) ∈ GW := gw_3 (List.mem_of_getElem? (i := 135) rfl) rfl
theorem g_616 : (Cond.methodLink "LathePiecesLaw" 100 ⟨"LathePieces", "speed", "(II)I"⟩) ∈ GW := gw_3 (List.mem_of_getElem? (i := 136) rfl) rfl
theorem g_617 : (Cond.instanceMethod ⟨"LathePieces", "speed", "(II)I"⟩) ∈ GW := gw_3 (List.mem_of_getElem? (i := 137) rfl) rfl
theorem g_618 : (Cond.selects "LathePieces" ⟨"LathePieces", "speed", "(II)I"⟩ ⟨"LathePieces", "speed", "(II)I"⟩) ∈ GW := gw_3 (List.mem_of_getElem? (i := 138) rfl) rfl
theorem g_619 : (Cond.code ⟨"LathePieces", "speed", "(II)I"⟩ prog_1_method_26_code 5 (Option.some FieldType.int)) ∈ GW := gw_3 (List.mem_of_getElem? (i := 139) rfl) rfl
theorem g_620 : (Cond.stringRef "LathePieces" 237 "no rows") ∈ lw_tbl := tb_3 (List.mem_of_getElem? (i := 140) rfl)
theorem g_621 : (Cond.classLink "LathePiecesLaw" 104 "LathePiecesModel") ∈ GW := gw_3 (List.mem_of_getElem? (i := 141) rfl) rfl
theorem g_622 : (Cond.instantiable "LathePiecesModel" 26) ∈ GW := gw_3 (List.mem_of_getElem? (i := 142) rfl) rfl
theorem g_623 : (Cond.methodLink "LathePiecesLaw" 106 ⟨"LathePiecesModel", "<init>", "()V"⟩) ∈ GW := gw_3 (List.mem_of_getElem? (i := 143) rfl) rfl
theorem g_624 : (Cond.instanceMethod ⟨"LathePiecesModel", "<init>", "()V"⟩) ∈ GW := gw_3 (List.mem_of_getElem? (i := 144) rfl) rfl
theorem g_625 : (Cond.code ⟨"LathePiecesModel", "<init>", "()V"⟩ prog_8_method_1_code 1 (Option.none : Option FieldType)) ∈ GW := gw_3 (List.mem_of_getElem? (i := 145) rfl) rfl
theorem g_626 : (Cond.methodLink "LathePiecesModel" 1 ⟨"java/lang/Object", "<init>", "()V"⟩) ∈ GW := gw_3 (List.mem_of_getElem? (i := 146) rfl) rfl
theorem g_627 : (Cond.fieldLink "LathePiecesModel" 58 "LathePiecesModel" "code" "I") ∈ GW := gw_3 (List.mem_of_getElem? (i := 147) rfl) rfl
theorem g_628 : (Cond.fieldLink "LathePiecesModel" 68 "LathePiecesModel" "begun" "Z") ∈ GW := gw_3 (List.mem_of_getElem? (i := 148) rfl) rfl
theorem g_629 : (Cond.fieldLink "LathePiecesModel" 72 "LathePiecesModel" "first" "I") ∈ GW := gw_3 (List.mem_of_getElem? (i := 149) rfl) rfl
theorem g_630 : (Cond.fieldLink "LathePiecesModel" 75 "LathePiecesModel" "ways" "I") ∈ GW := gw_3 (List.mem_of_getElem? (i := 150) rfl) rfl
theorem g_631 : (Cond.fieldLink "LathePiecesModel" 7 "LathePiecesModel" "at" "[I") ∈ GW := gw_3 (List.mem_of_getElem? (i := 151) rfl) rfl
theorem g_632 : (Cond.fieldLink "LathePiecesModel" 13 "LathePiecesModel" "end" "[I") ∈ GW := gw_3 (List.mem_of_getElem? (i := 152) rfl) rfl
theorem g_633 : (Cond.fieldLink "LathePiecesModel" 16 "LathePiecesModel" "sort" "[I") ∈ GW := gw_3 (List.mem_of_getElem? (i := 153) rfl) rfl
theorem g_634 : (Cond.fieldLink "LathePiecesModel" 19 "LathePiecesModel" "centre" "[I") ∈ GW := gw_3 (List.mem_of_getElem? (i := 154) rfl) rfl
theorem g_635 : (Cond.fieldLink "LathePiecesModel" 22 "LathePiecesModel" "high" "[I") ∈ GW := gw_3 (List.mem_of_getElem? (i := 155) rfl) rfl
theorem g_636 : (Cond.fieldLink "LathePiecesModel" 111 "LathePiecesModel" "pieces" "I") ∈ GW := gw_3 (List.mem_of_getElem? (i := 156) rfl) rfl
theorem g_637 : (Cond.fieldLink "LathePiecesModel" 25 "LathePiecesModel" "length" "[I") ∈ GW := gw_3 (List.mem_of_getElem? (i := 157) rfl) rfl
theorem g_638 : (Cond.fieldLink "LathePiecesModel" 28 "LathePiecesModel" "made" "[I") ∈ GW := gw_3 (List.mem_of_getElem? (i := 158) rfl) rfl
theorem g_639 : (Cond.fieldLink "LathePiecesModel" 31 "LathePiecesModel" "radii" "[I") ∈ GW := gw_3 (List.mem_of_getElem? (i := 159) rfl) rfl
theorem g_640 : (Cond.fieldLink "LathePiecesModel" 132 "LathePiecesModel" "tools" "I") ∈ GW := gw_3 (List.mem_of_getElem? (i := 160) rfl) rfl
theorem g_641 : (Cond.fieldLink "LathePiecesModel" 34 "LathePiecesModel" "noses" "[I") ∈ GW := gw_3 (List.mem_of_getElem? (i := 161) rfl) rfl
theorem g_642 : (Cond.fieldLink "LathePiecesModel" 37 "LathePiecesModel" "lifts" "[I") ∈ GW := gw_3 (List.mem_of_getElem? (i := 162) rfl) rfl
theorem g_643 : (Cond.fieldLink "LathePiecesModel" 40 "LathePiecesModel" "reach" "[I") ∈ GW := gw_3 (List.mem_of_getElem? (i := 163) rfl) rfl
theorem g_644 : (Cond.fieldLink "LathePiecesModel" 160 "LathePiecesModel" "rings" "I") ∈ GW := gw_3 (List.mem_of_getElem? (i := 164) rfl) rfl
theorem g_645 : (Cond.fieldLink "LathePiecesModel" 43 "LathePiecesModel" "wedges" "[I") ∈ GW := gw_3 (List.mem_of_getElem? (i := 165) rfl) rfl
theorem g_646 : (Cond.fieldLink "LathePiecesModel" 46 "LathePiecesModel" "above" "[I") ∈ GW := gw_3 (List.mem_of_getElem? (i := 166) rfl) rfl
theorem g_647 : (Cond.fieldLink "LathePiecesModel" 49 "LathePiecesModel" "below" "[I") ∈ GW := gw_3 (List.mem_of_getElem? (i := 167) rfl) rfl
theorem g_648 : (Cond.fieldLink "LathePiecesModel" 181 "LathePiecesModel" "pitchAbove" "I") ∈ GW := gw_3 (List.mem_of_getElem? (i := 168) rfl) rfl
theorem g_649 : (Cond.fieldLink "LathePiecesModel" 184 "LathePiecesModel" "pitchBelow" "I") ∈ GW := gw_3 (List.mem_of_getElem? (i := 169) rfl) rfl
theorem g_650 : (Cond.fieldLink "LathePiecesModel" 187 "LathePiecesModel" "rows" "I") ∈ GW := gw_3 (List.mem_of_getElem? (i := 170) rfl) rfl
theorem g_651 : (Cond.fieldLink "LathePiecesModel" 52 "LathePiecesModel" "upTo" "[I") ∈ GW := gw_3 (List.mem_of_getElem? (i := 171) rfl) rfl
theorem g_652 : (Cond.fieldLink "LathePiecesModel" 55 "LathePiecesModel" "turns" "[I") ∈ GW := gw_3 (List.mem_of_getElem? (i := 172) rfl) rfl
theorem g_653 : (Cond.lays "LathePiecesModel" "LathePiecesModel" "code" "I") ∈ GW := gw_3 (List.mem_of_getElem? (i := 173) rfl) rfl
theorem g_654 : (Cond.soleField "LathePiecesModel" "code") ∈ GW := gw_3 (List.mem_of_getElem? (i := 174) rfl) rfl
theorem g_655 : (Cond.lays "LathePiecesModel" "LathePiecesModel" "begun" "Z") ∈ GW := gw_3 (List.mem_of_getElem? (i := 175) rfl) rfl
theorem g_656 : (Cond.soleField "LathePiecesModel" "begun") ∈ GW := gw_3 (List.mem_of_getElem? (i := 176) rfl) rfl
theorem g_657 : (Cond.lays "LathePiecesModel" "LathePiecesModel" "first" "I") ∈ GW := gw_3 (List.mem_of_getElem? (i := 177) rfl) rfl
theorem g_658 : (Cond.soleField "LathePiecesModel" "first") ∈ GW := gw_3 (List.mem_of_getElem? (i := 178) rfl) rfl
theorem g_659 : (Cond.lays "LathePiecesModel" "LathePiecesModel" "ways" "I") ∈ GW := gw_3 (List.mem_of_getElem? (i := 179) rfl) rfl
theorem g_660 : (Cond.soleField "LathePiecesModel" "ways") ∈ GW := gw_3 (List.mem_of_getElem? (i := 180) rfl) rfl
theorem g_661 : (Cond.laysFinal "LathePiecesModel" "LathePiecesModel" "at" "[I") ∈ GW := gw_3 (List.mem_of_getElem? (i := 181) rfl) rfl
theorem g_662 : (Cond.soleField "LathePiecesModel" "at") ∈ GW := gw_3 (List.mem_of_getElem? (i := 182) rfl) rfl
theorem g_663 : (Cond.laysFinal "LathePiecesModel" "LathePiecesModel" "end" "[I") ∈ GW := gw_3 (List.mem_of_getElem? (i := 183) rfl) rfl
theorem g_664 : (Cond.soleField "LathePiecesModel" "end") ∈ GW := gw_3 (List.mem_of_getElem? (i := 184) rfl) rfl
theorem g_665 : (Cond.laysFinal "LathePiecesModel" "LathePiecesModel" "sort" "[I") ∈ GW := gw_3 (List.mem_of_getElem? (i := 185) rfl) rfl
theorem g_666 : (Cond.soleField "LathePiecesModel" "sort") ∈ GW := gw_3 (List.mem_of_getElem? (i := 186) rfl) rfl
theorem g_667 : (Cond.laysFinal "LathePiecesModel" "LathePiecesModel" "centre" "[I") ∈ GW := gw_3 (List.mem_of_getElem? (i := 187) rfl) rfl
theorem g_668 : (Cond.soleField "LathePiecesModel" "centre") ∈ GW := gw_3 (List.mem_of_getElem? (i := 188) rfl) rfl
theorem g_669 : (Cond.laysFinal "LathePiecesModel" "LathePiecesModel" "high" "[I") ∈ GW := gw_3 (List.mem_of_getElem? (i := 189) rfl) rfl
theorem g_670 : (Cond.soleField "LathePiecesModel" "high") ∈ GW := gw_3 (List.mem_of_getElem? (i := 190) rfl) rfl
theorem g_671 : (Cond.lays "LathePiecesModel" "LathePiecesModel" "pieces" "I") ∈ GW := gw_3 (List.mem_of_getElem? (i := 191) rfl) rfl
theorem g_672 : (Cond.soleField "LathePiecesModel" "pieces") ∈ GW := gw_3 (List.mem_of_getElem? (i := 192) rfl) rfl
theorem g_673 : (Cond.laysFinal "LathePiecesModel" "LathePiecesModel" "length" "[I") ∈ GW := gw_3 (List.mem_of_getElem? (i := 193) rfl) rfl
theorem g_674 : (Cond.soleField "LathePiecesModel" "length") ∈ GW := gw_3 (List.mem_of_getElem? (i := 194) rfl) rfl
theorem g_675 : (Cond.laysFinal "LathePiecesModel" "LathePiecesModel" "made" "[I") ∈ GW := gw_3 (List.mem_of_getElem? (i := 195) rfl) rfl
theorem g_676 : (Cond.soleField "LathePiecesModel" "made") ∈ GW := gw_3 (List.mem_of_getElem? (i := 196) rfl) rfl
theorem g_677 : (Cond.laysFinal "LathePiecesModel" "LathePiecesModel" "radii" "[I") ∈ GW := gw_3 (List.mem_of_getElem? (i := 197) rfl) rfl
theorem g_678 : (Cond.soleField "LathePiecesModel" "radii") ∈ GW := gw_3 (List.mem_of_getElem? (i := 198) rfl) rfl
theorem g_679 : (Cond.lays "LathePiecesModel" "LathePiecesModel" "tools" "I") ∈ GW := gw_3 (List.mem_of_getElem? (i := 199) rfl) rfl
theorem g_680 : (Cond.soleField "LathePiecesModel" "tools") ∈ GW := gw_3 (List.mem_of_getElem? (i := 200) rfl) rfl
theorem g_681 : (Cond.laysFinal "LathePiecesModel" "LathePiecesModel" "noses" "[I") ∈ GW := gw_3 (List.mem_of_getElem? (i := 201) rfl) rfl
theorem g_682 : (Cond.soleField "LathePiecesModel" "noses") ∈ GW := gw_3 (List.mem_of_getElem? (i := 202) rfl) rfl
theorem g_683 : (Cond.laysFinal "LathePiecesModel" "LathePiecesModel" "lifts" "[I") ∈ GW := gw_3 (List.mem_of_getElem? (i := 203) rfl) rfl
theorem g_684 : (Cond.soleField "LathePiecesModel" "lifts") ∈ GW := gw_3 (List.mem_of_getElem? (i := 204) rfl) rfl
theorem g_685 : (Cond.laysFinal "LathePiecesModel" "LathePiecesModel" "reach" "[I") ∈ GW := gw_3 (List.mem_of_getElem? (i := 205) rfl) rfl
theorem g_686 : (Cond.soleField "LathePiecesModel" "reach") ∈ GW := gw_3 (List.mem_of_getElem? (i := 206) rfl) rfl
theorem g_687 : (Cond.lays "LathePiecesModel" "LathePiecesModel" "rings" "I") ∈ GW := gw_3 (List.mem_of_getElem? (i := 207) rfl) rfl
theorem g_688 : (Cond.soleField "LathePiecesModel" "rings") ∈ GW := gw_3 (List.mem_of_getElem? (i := 208) rfl) rfl
theorem g_689 : (Cond.laysFinal "LathePiecesModel" "LathePiecesModel" "wedges" "[I") ∈ GW := gw_3 (List.mem_of_getElem? (i := 209) rfl) rfl
theorem g_690 : (Cond.soleField "LathePiecesModel" "wedges") ∈ GW := gw_3 (List.mem_of_getElem? (i := 210) rfl) rfl
theorem g_691 : (Cond.laysFinal "LathePiecesModel" "LathePiecesModel" "above" "[I") ∈ GW := gw_3 (List.mem_of_getElem? (i := 211) rfl) rfl
theorem g_692 : (Cond.soleField "LathePiecesModel" "above") ∈ GW := gw_3 (List.mem_of_getElem? (i := 212) rfl) rfl
theorem g_693 : (Cond.laysFinal "LathePiecesModel" "LathePiecesModel" "below" "[I") ∈ GW := gw_3 (List.mem_of_getElem? (i := 213) rfl) rfl
theorem g_694 : (Cond.soleField "LathePiecesModel" "below") ∈ GW := gw_3 (List.mem_of_getElem? (i := 214) rfl) rfl
theorem g_695 : (Cond.lays "LathePiecesModel" "LathePiecesModel" "pitchAbove" "I") ∈ GW := gw_3 (List.mem_of_getElem? (i := 215) rfl) rfl
theorem g_696 : (Cond.soleField "LathePiecesModel" "pitchAbove") ∈ GW := gw_3 (List.mem_of_getElem? (i := 216) rfl) rfl
theorem g_697 : (Cond.lays "LathePiecesModel" "LathePiecesModel" "pitchBelow" "I") ∈ GW := gw_3 (List.mem_of_getElem? (i := 217) rfl) rfl
theorem g_698 : (Cond.soleField "LathePiecesModel" "pitchBelow") ∈ GW := gw_3 (List.mem_of_getElem? (i := 218) rfl) rfl
theorem g_699 : (Cond.lays "LathePiecesModel" "LathePiecesModel" "rows" "I") ∈ GW := gw_3 (List.mem_of_getElem? (i := 219) rfl) rfl
theorem g_700 : (Cond.soleField "LathePiecesModel" "rows") ∈ GW := gw_3 (List.mem_of_getElem? (i := 220) rfl) rfl
theorem g_701 : (Cond.laysFinal "LathePiecesModel" "LathePiecesModel" "upTo" "[I") ∈ GW := gw_3 (List.mem_of_getElem? (i := 221) rfl) rfl
theorem g_702 : (Cond.soleField "LathePiecesModel" "upTo") ∈ GW := gw_3 (List.mem_of_getElem? (i := 222) rfl) rfl
theorem g_703 : (Cond.laysFinal "LathePiecesModel" "LathePiecesModel" "turns" "[I") ∈ GW := gw_3 (List.mem_of_getElem? (i := 223) rfl) rfl
theorem g_704 : (Cond.soleField "LathePiecesModel" "turns") ∈ GW := gw_3 (List.mem_of_getElem? (i := 224) rfl) rfl
theorem g_705 : (Cond.superclass "LathePiecesModel" "java/lang/Object") ∈ GW := gw_3 (List.mem_of_getElem? (i := 225) rfl) rfl
theorem g_706 : (Cond.methodLink "LathePiecesLaw" 113 ⟨"LathePiecesModel", "thrown", "()I"⟩) ∈ GW := gw_3 (List.mem_of_getElem? (i := 226) rfl) rfl
theorem g_707 : (Cond.instanceMethod ⟨"LathePiecesModel", "thrown", "()I"⟩) ∈ GW := gw_3 (List.mem_of_getElem? (i := 227) rfl) rfl
theorem g_708 : (Cond.selects "LathePiecesModel" ⟨"LathePiecesModel", "thrown", "()I"⟩ ⟨"LathePiecesModel", "thrown", "()I"⟩) ∈ GW := gw_3 (List.mem_of_getElem? (i := 228) rfl) rfl
theorem g_709 : (Cond.code ⟨"LathePiecesModel", "thrown", "()I"⟩ prog_8_method_2_code 1 (Option.some FieldType.int)) ∈ GW := gw_3 (List.mem_of_getElem? (i := 229) rfl) rfl
theorem g_710 : (Cond.methodLink "LathePiecesLaw" 112 ⟨"LathePiecesModel", "start", "(I)V"⟩) ∈ GW := gw_3 (List.mem_of_getElem? (i := 230) rfl) rfl
theorem g_711 : (Cond.instanceMethod ⟨"LathePiecesModel", "start", "(I)V"⟩) ∈ GW := gw_3 (List.mem_of_getElem? (i := 231) rfl) rfl
theorem g_712 : (Cond.selects "LathePiecesModel" ⟨"LathePiecesModel", "start", "(I)V"⟩ ⟨"LathePiecesModel", "start", "(I)V"⟩) ∈ GW := gw_3 (List.mem_of_getElem? (i := 232) rfl) rfl
theorem g_713 : (Cond.code ⟨"LathePiecesModel", "start", "(I)V"⟩ prog_8_method_5_code 2 (Option.none : Option FieldType)) ∈ GW := gw_3 (List.mem_of_getElem? (i := 233) rfl) rfl
theorem g_714 : (Cond.constantLong "LathePiecesModel" 62 (500 : Int64)) ∈ GW := gw_3 (List.mem_of_getElem? (i := 234) rfl) rfl
theorem g_715 : (Cond.methodLink "LathePiecesModel" 64 ⟨"LathePiecesModel", "in", "(JJJ)Z"⟩) ∈ GW := gw_3 (List.mem_of_getElem? (i := 235) rfl) rfl
theorem g_716 : (Cond.static ⟨"LathePiecesModel", "in", "(JJJ)Z"⟩) ∈ GW := gw_3 (List.mem_of_getElem? (i := 236) rfl) rfl
theorem g_717 : (Cond.code ⟨"LathePiecesModel", "in", "(JJJ)Z"⟩ prog_8_method_3_code 6 (Option.some FieldType.boolean)) ∈ GW := gw_3 (List.mem_of_getElem? (i := 237) rfl) rfl
theorem g_718 : (Cond.methodLink "LathePiecesLaw" 119 ⟨"LathePiecesModel", "line", "(II)I"⟩) ∈ GW := gw_3 (List.mem_of_getElem? (i := 238) rfl) rfl
theorem g_719 : (Cond.instanceMethod ⟨"LathePiecesModel", "line", "(II)I"⟩) ∈ GW := gw_3 (List.mem_of_getElem? (i := 239) rfl) rfl
theorem g_720 : (Cond.selects "LathePiecesModel" ⟨"LathePiecesModel", "line", "(II)I"⟩ ⟨"LathePiecesModel", "line", "(II)I"⟩) ∈ GW := gw_4 (List.mem_of_getElem? (i := 0) rfl) rfl
theorem g_721 : (Cond.code ⟨"LathePiecesModel", "line", "(II)I"⟩ prog_8_method_10_code 3 (Option.some FieldType.int)) ∈ GW := gw_4 (List.mem_of_getElem? (i := 1) rfl) rfl
theorem g_722 : (Cond.methodLink "LathePiecesModel" 84 ⟨"LathePiecesModel", "look", "(II)V"⟩) ∈ GW := gw_4 (List.mem_of_getElem? (i := 2) rfl) rfl
theorem g_723 : (Cond.privateMethod ⟨"LathePiecesModel", "look", "(II)V"⟩) ∈ lw_tbl := tb_4 (List.mem_of_getElem? (i := 3) rfl)
theorem g_724 : (Cond.instanceMethod ⟨"LathePiecesModel", "look", "(II)V"⟩) ∈ GW := gw_4 (List.mem_of_getElem? (i := 4) rfl) rfl
theorem g_725 : (Cond.code ⟨"LathePiecesModel", "look", "(II)V"⟩ prog_8_method_8_code 3 (Option.none : Option FieldType)) ∈ GW := gw_4 (List.mem_of_getElem? (i := 5) rfl) rfl
theorem g_726 : (Cond.constantLong "LathePiecesModel" 78 (64 : Int64)) ∈ GW := gw_4 (List.mem_of_getElem? (i := 6) rfl) rfl
theorem g_727 : (Cond.methodLink "LathePiecesModel" 80 ⟨"LathePiecesModel", "lastAt", "()I"⟩) ∈ GW := gw_4 (List.mem_of_getElem? (i := 7) rfl) rfl
theorem g_728 : (Cond.privateMethod ⟨"LathePiecesModel", "lastAt", "()I"⟩) ∈ lw_tbl := tb_4 (List.mem_of_getElem? (i := 8) rfl)
theorem g_729 : (Cond.instanceMethod ⟨"LathePiecesModel", "lastAt", "()I"⟩) ∈ GW := gw_4 (List.mem_of_getElem? (i := 9) rfl) rfl
theorem g_730 : (Cond.code ⟨"LathePiecesModel", "lastAt", "()I"⟩ prog_8_method_6_code 1 (Option.some FieldType.int)) ∈ GW := gw_4 (List.mem_of_getElem? (i := 10) rfl) rfl
theorem g_731 : (Cond.methodLink "LathePiecesModel" 88 ⟨"LathePiecesModel", "add", "(IIIII)V"⟩) ∈ GW := gw_4 (List.mem_of_getElem? (i := 11) rfl) rfl
theorem g_732 : (Cond.privateMethod ⟨"LathePiecesModel", "add", "(IIIII)V"⟩) ∈ lw_tbl := tb_4 (List.mem_of_getElem? (i := 12) rfl)
theorem g_733 : (Cond.instanceMethod ⟨"LathePiecesModel", "add", "(IIIII)V"⟩) ∈ GW := gw_4 (List.mem_of_getElem? (i := 13) rfl) rfl
theorem g_734 : (Cond.code ⟨"LathePiecesModel", "add", "(IIIII)V"⟩ prog_8_method_9_code 6 (Option.none : Option FieldType)) ∈ GW := gw_4 (List.mem_of_getElem? (i := 14) rfl) rfl
theorem g_735 : (Cond.methodLink "LathePiecesLaw" 123 ⟨"LathePiecesModel", "arc", "(IIIIZ)Z"⟩) ∈ GW := gw_4 (List.mem_of_getElem? (i := 15) rfl) rfl
theorem g_736 : (Cond.instanceMethod ⟨"LathePiecesModel", "arc", "(IIIIZ)Z"⟩) ∈ GW := gw_4 (List.mem_of_getElem? (i := 16) rfl) rfl
theorem g_737 : (Cond.selects "LathePiecesModel" ⟨"LathePiecesModel", "arc", "(IIIIZ)Z"⟩ ⟨"LathePiecesModel", "arc", "(IIIIZ)Z"⟩) ∈ GW := gw_4 (List.mem_of_getElem? (i := 17) rfl) rfl
theorem g_738 : (Cond.code ⟨"LathePiecesModel", "arc", "(IIIIZ)Z"⟩ prog_8_method_12_code 8 (Option.some FieldType.boolean)) ∈ GW := gw_4 (List.mem_of_getElem? (i := 18) rfl) rfl
theorem g_739 : (Cond.constantLong "LathePiecesModel" 92 (-200 : Int64)) ∈ GW := gw_4 (List.mem_of_getElem? (i := 19) rfl) rfl
theorem g_740 : (Cond.constantLong "LathePiecesModel" 94 (300 : Int64)) ∈ GW := gw_4 (List.mem_of_getElem? (i := 20) rfl) rfl
theorem g_741 : (Cond.constantLong "LathePiecesModel" 96 (-1000 : Int64)) ∈ GW := gw_4 (List.mem_of_getElem? (i := 21) rfl) rfl
theorem g_742 : (Cond.constantLong "LathePiecesModel" 98 (1500 : Int64)) ∈ GW := gw_4 (List.mem_of_getElem? (i := 22) rfl) rfl
theorem g_743 : (Cond.methodLink "LathePiecesModel" 100 ⟨"LathePiecesModel", "lastRadius", "()I"⟩) ∈ GW := gw_4 (List.mem_of_getElem? (i := 23) rfl) rfl
theorem g_744 : (Cond.privateMethod ⟨"LathePiecesModel", "lastRadius", "()I"⟩) ∈ lw_tbl := tb_4 (List.mem_of_getElem? (i := 24) rfl)
theorem g_745 : (Cond.instanceMethod ⟨"LathePiecesModel", "lastRadius", "()I"⟩) ∈ GW := gw_4 (List.mem_of_getElem? (i := 25) rfl) rfl
theorem g_746 : (Cond.code ⟨"LathePiecesModel", "lastRadius", "()I"⟩ prog_8_method_7_code 1 (Option.some FieldType.int)) ∈ GW := gw_4 (List.mem_of_getElem? (i := 26) rfl) rfl
theorem g_747 : (Cond.methodLink "LathePiecesModel" 103 ⟨"LathePiecesModel", "square", "(IIII)I"⟩) ∈ GW := gw_4 (List.mem_of_getElem? (i := 27) rfl) rfl
theorem g_748 : (Cond.static ⟨"LathePiecesModel", "square", "(IIII)I"⟩) ∈ GW := gw_4 (List.mem_of_getElem? (i := 28) rfl) rfl
theorem g_749 : (Cond.code ⟨"LathePiecesModel", "square", "(IIII)I"⟩ prog_8_method_11_code 4 (Option.some FieldType.int)) ∈ GW := gw_4 (List.mem_of_getElem? (i := 29) rfl) rfl
theorem g_750 : (Cond.methodLink "LathePiecesLaw" 127 ⟨"LathePiecesModel", "turn", "()I"⟩) ∈ GW := gw_4 (List.mem_of_getElem? (i := 30) rfl) rfl
theorem g_751 : (Cond.instanceMethod ⟨"LathePiecesModel", "turn", "()I"⟩) ∈ GW := gw_4 (List.mem_of_getElem? (i := 31) rfl) rfl
theorem g_752 : (Cond.selects "LathePiecesModel" ⟨"LathePiecesModel", "turn", "()I"⟩ ⟨"LathePiecesModel", "turn", "()I"⟩) ∈ GW := gw_4 (List.mem_of_getElem? (i := 32) rfl) rfl
theorem g_753 : (Cond.code ⟨"LathePiecesModel", "turn", "()I"⟩ prog_8_method_14_code 6 (Option.some FieldType.int)) ∈ GW := gw_4 (List.mem_of_getElem? (i := 33) rfl) rfl
theorem g_754 : (Cond.methodLink "LathePiecesModel" 114 ⟨"LathePiecesModel", "onWay", "(IIII)I"⟩) ∈ GW := gw_4 (List.mem_of_getElem? (i := 34) rfl) rfl
theorem g_755 : (Cond.privateMethod ⟨"LathePiecesModel", "onWay", "(IIII)I"⟩) ∈ lw_tbl := tb_4 (List.mem_of_getElem? (i := 35) rfl)
theorem g_756 : (Cond.instanceMethod ⟨"LathePiecesModel", "onWay", "(IIII)I"⟩) ∈ GW := gw_4 (List.mem_of_getElem? (i := 36) rfl) rfl
theorem g_757 : (Cond.code ⟨"LathePiecesModel", "onWay", "(IIII)I"⟩ prog_8_method_13_code 7 (Option.some FieldType.int)) ∈ GW := gw_4 (List.mem_of_getElem? (i := 37) rfl) rfl
theorem g_758 : (Cond.methodLink "LathePiecesModel" 107 ⟨"LathePiecesModel", "root", "(I)I"⟩) ∈ GW := gw_4 (List.mem_of_getElem? (i := 38) rfl) rfl
theorem g_759 : (Cond.static ⟨"LathePiecesModel", "root", "(I)I"⟩) ∈ GW := gw_4 (List.mem_of_getElem? (i := 39) rfl) rfl
theorem g_760 : (Cond.code ⟨"LathePiecesModel", "root", "(I)I"⟩ prog_8_method_4_code 2 (Option.some FieldType.int)) ∈ GW := gw_4 (List.mem_of_getElem? (i := 40) rfl) rfl
theorem g_761 : (Cond.methodLink "LathePiecesLaw" 130 ⟨"LathePiecesModel", "radius", "(II)I"⟩) ∈ GW := gw_4 (List.mem_of_getElem? (i := 41) rfl) rfl
theorem g_762 : (Cond.instanceMethod ⟨"LathePiecesModel", "radius", "(II)I"⟩) ∈ GW := gw_4 (List.mem_of_getElem? (i := 42) rfl) rfl
theorem g_763 : (Cond.selects "LathePiecesModel" ⟨"LathePiecesModel", "radius", "(II)I"⟩ ⟨"LathePiecesModel", "radius", "(II)I"⟩) ∈ GW := gw_4 (List.mem_of_getElem? (i := 43) rfl) rfl
theorem g_764 : (Cond.code ⟨"LathePiecesModel", "radius", "(II)I"⟩ prog_8_method_17_code 3 (Option.some FieldType.int)) ∈ GW := gw_4 (List.mem_of_getElem? (i := 44) rfl) rfl
theorem g_765 : (Cond.methodLink "LathePiecesModel" 121 ⟨"LathePiecesModel", "hasPlace", "(II)Z"⟩) ∈ GW := gw_4 (List.mem_of_getElem? (i := 45) rfl) rfl
theorem g_766 : (Cond.privateMethod ⟨"LathePiecesModel", "hasPlace", "(II)Z"⟩) ∈ lw_tbl := tb_4 (List.mem_of_getElem? (i := 46) rfl)
theorem g_767 : (Cond.instanceMethod ⟨"LathePiecesModel", "hasPlace", "(II)Z"⟩) ∈ GW := gw_4 (List.mem_of_getElem? (i := 47) rfl) rfl
theorem g_768 : (Cond.code ⟨"LathePiecesModel", "hasPlace", "(II)Z"⟩ prog_8_method_16_code 3 (Option.some FieldType.boolean)) ∈ GW := gw_4 (List.mem_of_getElem? (i := 48) rfl) rfl
theorem g_769 : (Cond.methodLink "LathePiecesModel" 117 ⟨"LathePiecesModel", "isPiece", "(I)Z"⟩) ∈ GW := gw_4 (List.mem_of_getElem? (i := 49) rfl) rfl
theorem g_770 : (Cond.privateMethod ⟨"LathePiecesModel", "isPiece", "(I)Z"⟩) ∈ lw_tbl := tb_4 (List.mem_of_getElem? (i := 50) rfl)
theorem g_771 : (Cond.instanceMethod ⟨"LathePiecesModel", "isPiece", "(I)Z"⟩) ∈ GW := gw_4 (List.mem_of_getElem? (i := 51) rfl) rfl
theorem g_772 : (Cond.code ⟨"LathePiecesModel", "isPiece", "(I)Z"⟩ prog_8_method_15_code 2 (Option.some FieldType.boolean)) ∈ GW := gw_4 (List.mem_of_getElem? (i := 52) rfl) rfl
theorem g_773 : (Cond.methodLink "LathePiecesLaw" 133 ⟨"LathePiecesModel", "about", "(II)I"⟩) ∈ GW := gw_4 (List.mem_of_getElem? (i := 53) rfl) rfl
theorem g_774 : (Cond.instanceMethod ⟨"LathePiecesModel", "about", "(II)I"⟩) ∈ GW := gw_4 (List.mem_of_getElem? (i := 54) rfl) rfl
theorem g_775 : (Cond.selects "LathePiecesModel" ⟨"LathePiecesModel", "about", "(II)I"⟩ ⟨"LathePiecesModel", "about", "(II)I"⟩) ∈ GW := gw_4 (List.mem_of_getElem? (i := 55) rfl) rfl
theorem g_776 : (Cond.code ⟨"LathePiecesModel", "about", "(II)I"⟩ prog_8_method_19_code 3 (Option.some FieldType.int)) ∈ GW := gw_4 (List.mem_of_getElem? (i := 56) rfl) rfl
theorem g_777 : (Cond.constantLong "LathePiecesModel" 125 (2 : Int64)) ∈ GW := gw_4 (List.mem_of_getElem? (i := 57) rfl) rfl
theorem g_778 : (Cond.methodLink "LathePiecesModel" 127 ⟨"LathePiecesModel", "blank", "(I)I"⟩) ∈ GW := gw_4 (List.mem_of_getElem? (i := 58) rfl) rfl
theorem g_779 : (Cond.privateMethod ⟨"LathePiecesModel", "blank", "(I)I"⟩) ∈ lw_tbl := tb_4 (List.mem_of_getElem? (i := 59) rfl)
theorem g_780 : (Cond.instanceMethod ⟨"LathePiecesModel", "blank", "(I)I"⟩) ∈ GW := gw_4 (List.mem_of_getElem? (i := 60) rfl) rfl
theorem g_781 : (Cond.code ⟨"LathePiecesModel", "blank", "(I)I"⟩ prog_8_method_18_code 4 (Option.some FieldType.int)) ∈ GW := gw_4 (List.mem_of_getElem? (i := 61) rfl) rfl
theorem g_782 : (Cond.methodLink "LathePiecesLaw" 137 ⟨"LathePiecesModel", "tool", "(I)I"⟩) ∈ GW := gw_4 (List.mem_of_getElem? (i := 62) rfl) rfl
theorem g_783 : (Cond.instanceMethod ⟨"LathePiecesModel", "tool", "(I)I"⟩) ∈ GW := gw_4 (List.mem_of_getElem? (i := 63) rfl) rfl
theorem g_784 : (Cond.selects "LathePiecesModel" ⟨"LathePiecesModel", "tool", "(I)I"⟩ ⟨"LathePiecesModel", "tool", "(I)I"⟩) ∈ GW := gw_4 (List.mem_of_getElem? (i := 64) rfl) rfl
theorem g_785 : (Cond.code ⟨"LathePiecesModel", "tool", "(I)I"⟩ prog_8_method_20_code 2 (Option.some FieldType.int)) ∈ GW := gw_4 (List.mem_of_getElem? (i := 65) rfl) rfl
theorem g_786 : (Cond.constantLong "LathePiecesModel" 130 (12 : Int64)) ∈ GW := gw_4 (List.mem_of_getElem? (i := 66) rfl) rfl
theorem g_787 : (Cond.methodLink "LathePiecesLaw" 141 ⟨"LathePiecesModel", "reached", "(III)I"⟩) ∈ GW := gw_4 (List.mem_of_getElem? (i := 67) rfl) rfl
theorem g_788 : (Cond.instanceMethod ⟨"LathePiecesModel", "reached", "(III)I"⟩) ∈ GW := gw_4 (List.mem_of_getElem? (i := 68) rfl) rfl
theorem g_789 : (Cond.selects "LathePiecesModel" ⟨"LathePiecesModel", "reached", "(III)I"⟩ ⟨"LathePiecesModel", "reached", "(III)I"⟩) ∈ GW := gw_4 (List.mem_of_getElem? (i := 69) rfl) rfl
theorem g_790 : (Cond.code ⟨"LathePiecesModel", "reached", "(III)I"⟩ prog_8_method_22_code 4 (Option.some FieldType.int)) ∈ GW := gw_4 (List.mem_of_getElem? (i := 70) rfl) rfl
theorem g_791 : (Cond.methodLink "LathePiecesModel" 135 ⟨"LathePiecesModel", "reachAll", "(II)V"⟩) ∈ GW := gw_4 (List.mem_of_getElem? (i := 71) rfl) rfl
theorem g_792 : (Cond.privateMethod ⟨"LathePiecesModel", "reachAll", "(II)V"⟩) ∈ lw_tbl := tb_4 (List.mem_of_getElem? (i := 72) rfl)
theorem g_793 : (Cond.instanceMethod ⟨"LathePiecesModel", "reachAll", "(II)V"⟩) ∈ GW := gw_4 (List.mem_of_getElem? (i := 73) rfl) rfl
theorem g_794 : (Cond.code ⟨"LathePiecesModel", "reachAll", "(II)V"⟩ prog_8_method_21_code 7 (Option.none : Option FieldType)) ∈ GW := gw_4 (List.mem_of_getElem? (i := 74) rfl) rfl
theorem g_795 : (Cond.methodLink "LathePiecesLaw" 144 ⟨"LathePiecesModel", "left", "(II)I"⟩) ∈ GW := gw_4 (List.mem_of_getElem? (i := 75) rfl) rfl
theorem g_796 : (Cond.instanceMethod ⟨"LathePiecesModel", "left", "(II)I"⟩) ∈ GW := gw_4 (List.mem_of_getElem? (i := 76) rfl) rfl
theorem g_797 : (Cond.selects "LathePiecesModel" ⟨"LathePiecesModel", "left", "(II)I"⟩ ⟨"LathePiecesModel", "left", "(II)I"⟩) ∈ GW := gw_4 (List.mem_of_getElem? (i := 77) rfl) rfl
theorem g_798 : (Cond.code ⟨"LathePiecesModel", "left", "(II)I"⟩ prog_8_method_23_code 5 (Option.some FieldType.int)) ∈ GW := gw_4 (List.mem_of_getElem? (i := 78) rfl) rfl
theorem g_799 : (Cond.methodLink "LathePiecesLaw" 148 ⟨"LathePiecesModel", "passes", "(IIII)I"⟩) ∈ GW := gw_4 (List.mem_of_getElem? (i := 79) rfl) rfl
theorem g_800 : (Cond.instanceMethod ⟨"LathePiecesModel", "passes", "(IIII)I"⟩) ∈ GW := gw_4 (List.mem_of_getElem? (i := 80) rfl) rfl
theorem g_801 : (Cond.selects "LathePiecesModel" ⟨"LathePiecesModel", "passes", "(IIII)I"⟩ ⟨"LathePiecesModel", "passes", "(IIII)I"⟩) ∈ GW := gw_4 (List.mem_of_getElem? (i := 81) rfl) rfl
theorem g_802 : (Cond.code ⟨"LathePiecesModel", "passes", "(IIII)I"⟩ prog_8_method_26_code 6 (Option.some FieldType.int)) ∈ GW := gw_4 (List.mem_of_getElem? (i := 82) rfl) rfl
theorem g_803 : (Cond.methodLink "LathePiecesModel" 142 ⟨"LathePiecesModel", "lookRough", "(IIII)V"⟩) ∈ GW := gw_4 (List.mem_of_getElem? (i := 83) rfl) rfl
theorem g_804 : (Cond.privateMethod ⟨"LathePiecesModel", "lookRough", "(IIII)V"⟩) ∈ lw_tbl := tb_4 (List.mem_of_getElem? (i := 84) rfl)
theorem g_805 : (Cond.instanceMethod ⟨"LathePiecesModel", "lookRough", "(IIII)V"⟩) ∈ GW := gw_4 (List.mem_of_getElem? (i := 85) rfl) rfl
theorem g_806 : (Cond.code ⟨"LathePiecesModel", "lookRough", "(IIII)V"⟩ prog_8_method_25_code 5 (Option.none : Option FieldType)) ∈ GW := gw_4 (List.mem_of_getElem? (i := 86) rfl) rfl
theorem g_807 : (Cond.constantLong "LathePiecesModel" 138 (100 : Int64)) ∈ GW := gw_4 (List.mem_of_getElem? (i := 87) rfl) rfl
theorem g_808 : (Cond.constantLong "LathePiecesModel" 140 (50 : Int64)) ∈ GW := gw_4 (List.mem_of_getElem? (i := 88) rfl) rfl
theorem g_809 : (Cond.methodLink "LathePiecesModel" 146 ⟨"LathePiecesModel", "wantedBelow", "(IIJ)I"⟩) ∈ GW := gw_4 (List.mem_of_getElem? (i := 89) rfl) rfl
theorem g_810 : (Cond.privateMethod ⟨"LathePiecesModel", "wantedBelow", "(IIJ)I"⟩) ∈ lw_tbl := tb_4 (List.mem_of_getElem? (i := 90) rfl)
theorem g_811 : (Cond.instanceMethod ⟨"LathePiecesModel", "wantedBelow", "(IIJ)I"⟩) ∈ GW := gw_4 (List.mem_of_getElem? (i := 91) rfl) rfl
theorem g_812 : (Cond.code ⟨"LathePiecesModel", "wantedBelow", "(IIJ)I"⟩ prog_8_method_24_code 9 (Option.some FieldType.int)) ∈ GW := gw_4 (List.mem_of_getElem? (i := 92) rfl) rfl
theorem g_813 : (Cond.methodLink "LathePiecesLaw" 152 ⟨"LathePiecesModel", "cut", "(IIIII)I"⟩) ∈ GW := gw_4 (List.mem_of_getElem? (i := 93) rfl) rfl
theorem g_814 : (Cond.instanceMethod ⟨"LathePiecesModel", "cut", "(IIIII)I"⟩) ∈ GW := gw_4 (List.mem_of_getElem? (i := 94) rfl) rfl
theorem g_815 : (Cond.selects "LathePiecesModel" ⟨"LathePiecesModel", "cut", "(IIIII)I"⟩ ⟨"LathePiecesModel", "cut", "(IIIII)I"⟩) ∈ GW := gw_4 (List.mem_of_getElem? (i := 95) rfl) rfl
theorem g_816 : (Cond.code ⟨"LathePiecesModel", "cut", "(IIIII)I"⟩ prog_8_method_27_code 6 (Option.some FieldType.int)) ∈ GW := gw_4 (List.mem_of_getElem? (i := 96) rfl) rfl
theorem g_817 : (Cond.methodLink "LathePiecesLaw" 155 ⟨"LathePiecesModel", "steady", "(III)I"⟩) ∈ GW := gw_4 (List.mem_of_getElem? (i := 97) rfl) rfl
theorem g_818 : (Cond.instanceMethod ⟨"LathePiecesModel", "steady", "(III)I"⟩) ∈ GW := gw_4 (List.mem_of_getElem? (i := 98) rfl) rfl
theorem g_819 : (Cond.selects "LathePiecesModel" ⟨"LathePiecesModel", "steady", "(III)I"⟩ ⟨"LathePiecesModel", "steady", "(III)I"⟩) ∈ GW := gw_4 (List.mem_of_getElem? (i := 99) rfl) rfl
theorem g_820 : (Cond.code ⟨"LathePiecesModel", "steady", "(III)I"⟩ prog_8_method_29_code 6 (Option.some FieldType.int)) ∈ GW := gw_4 (List.mem_of_getElem? (i := 100) rfl) rfl
theorem g_821 : (Cond.methodLink "LathePiecesModel" 150 ⟨"LathePiecesModel", "nextHeld", "(III)I"⟩) ∈ GW := gw_4 (List.mem_of_getElem? (i := 101) rfl) rfl
theorem g_822 : (Cond.privateMethod ⟨"LathePiecesModel", "nextHeld", "(III)I"⟩) ∈ lw_tbl := tb_4 (List.mem_of_getElem? (i := 102) rfl)
theorem g_823 : (Cond.instanceMethod ⟨"LathePiecesModel", "nextHeld", "(III)I"⟩) ∈ GW := gw_4 (List.mem_of_getElem? (i := 103) rfl) rfl
theorem g_824 : (Cond.code ⟨"LathePiecesModel", "nextHeld", "(III)I"⟩ prog_8_method_28_code 8 (Option.some FieldType.int)) ∈ GW := gw_4 (List.mem_of_getElem? (i := 104) rfl) rfl
theorem g_825 : (Cond.methodLink "LathePiecesLaw" 159 ⟨"LathePiecesModel", "volume", "(IZ)J"⟩) ∈ GW := gw_4 (List.mem_of_getElem? (i := 105) rfl) rfl
theorem g_826 : (Cond.instanceMethod ⟨"LathePiecesModel", "volume", "(IZ)J"⟩) ∈ GW := gw_4 (List.mem_of_getElem? (i := 106) rfl) rfl
theorem g_827 : (Cond.selects "LathePiecesModel" ⟨"LathePiecesModel", "volume", "(IZ)J"⟩ ⟨"LathePiecesModel", "volume", "(IZ)J"⟩) ∈ GW := gw_4 (List.mem_of_getElem? (i := 107) rfl) rfl
theorem g_828 : (Cond.code ⟨"LathePiecesModel", "volume", "(IZ)J"⟩ prog_8_method_30_code 9 (Option.some FieldType.long)) ∈ GW := gw_4 (List.mem_of_getElem? (i := 108) rfl) rfl
theorem g_829 : (Cond.constantLong "LathePiecesModel" 154 (314160 : Int64)) ∈ GW := gw_4 (List.mem_of_getElem? (i := 109) rfl) rfl
theorem g_830 : (Cond.constantLong "LathePiecesModel" 156 (100000 : Int64)) ∈ GW := gw_4 (List.mem_of_getElem? (i := 110) rfl) rfl
theorem g_831 : (Cond.constantLong "LathePiecesModel" 158 (314159 : Int64)) ∈ GW := gw_4 (List.mem_of_getElem? (i := 111) rfl) rfl
theorem g_832 : (Cond.methodLink "LathePiecesLaw" 162 ⟨"LathePiecesModel", "hollow", "(III)I"⟩) ∈ GW := gw_4 (List.mem_of_getElem? (i := 112) rfl) rfl
theorem g_833 : (Cond.instanceMethod ⟨"LathePiecesModel", "hollow", "(III)I"⟩) ∈ GW := gw_4 (List.mem_of_getElem? (i := 113) rfl) rfl
theorem g_834 : (Cond.selects "LathePiecesModel" ⟨"LathePiecesModel", "hollow", "(III)I"⟩ ⟨"LathePiecesModel", "hollow", "(III)I"⟩) ∈ GW := gw_4 (List.mem_of_getElem? (i := 114) rfl) rfl
theorem g_835 : (Cond.code ⟨"LathePiecesModel", "hollow", "(III)I"⟩ prog_8_method_31_code 5 (Option.some FieldType.int)) ∈ GW := gw_4 (List.mem_of_getElem? (i := 115) rfl) rfl
theorem g_836 : (Cond.methodLink "LathePiecesLaw" 165 ⟨"LathePiecesModel", "copy", "(II)I"⟩) ∈ GW := gw_4 (List.mem_of_getElem? (i := 116) rfl) rfl
theorem g_837 : (Cond.instanceMethod ⟨"LathePiecesModel", "copy", "(II)I"⟩) ∈ GW := gw_4 (List.mem_of_getElem? (i := 117) rfl) rfl
theorem g_838 : (Cond.selects "LathePiecesModel" ⟨"LathePiecesModel", "copy", "(II)I"⟩ ⟨"LathePiecesModel", "copy", "(II)I"⟩) ∈ GW := gw_4 (List.mem_of_getElem? (i := 118) rfl) rfl
theorem g_839 : (Cond.code ⟨"LathePiecesModel", "copy", "(II)I"⟩ prog_8_method_32_code 6 (Option.some FieldType.int)) ∈ GW := gw_4 (List.mem_of_getElem? (i := 119) rfl) rfl
theorem g_840 : (Cond.methodLink "LathePiecesLaw" 168 ⟨"LathePiecesModel", "ring", "()I"⟩) ∈ GW := gw_4 (List.mem_of_getElem? (i := 120) rfl) rfl
theorem g_841 : (Cond.instanceMethod ⟨"LathePiecesModel", "ring", "()I"⟩) ∈ GW := gw_4 (List.mem_of_getElem? (i := 121) rfl) rfl
theorem g_842 : (Cond.selects "LathePiecesModel" ⟨"LathePiecesModel", "ring", "()I"⟩ ⟨"LathePiecesModel", "ring", "()I"⟩) ∈ GW := gw_4 (List.mem_of_getElem? (i := 122) rfl) rfl
theorem g_843 : (Cond.code ⟨"LathePiecesModel", "ring", "()I"⟩ prog_8_method_33_code 1 (Option.some FieldType.int)) ∈ GW := gw_4 (List.mem_of_getElem? (i := 123) rfl) rfl
theorem g_844 : (Cond.methodLink "LathePiecesLaw" 171 ⟨"LathePiecesModel", "wedge", "(III)I"⟩) ∈ GW := gw_4 (List.mem_of_getElem? (i := 124) rfl) rfl
theorem g_845 : (Cond.instanceMethod ⟨"LathePiecesModel", "wedge", "(III)I"⟩) ∈ GW := gw_4 (List.mem_of_getElem? (i := 125) rfl) rfl
theorem g_846 : (Cond.selects "LathePiecesModel" ⟨"LathePiecesModel", "wedge", "(III)I"⟩ ⟨"LathePiecesModel", "wedge", "(III)I"⟩) ∈ GW := gw_4 (List.mem_of_getElem? (i := 126) rfl) rfl
theorem g_847 : (Cond.code ⟨"LathePiecesModel", "wedge", "(III)I"⟩ prog_8_method_34_code 4 (Option.some FieldType.int)) ∈ GW := gw_4 (List.mem_of_getElem? (i := 127) rfl) rfl
theorem g_848 : (Cond.constantLong "LathePiecesModel" 163 (3600 : Int64)) ∈ GW := gw_4 (List.mem_of_getElem? (i := 128) rfl) rfl
theorem g_849 : (Cond.methodLink "LathePiecesLaw" 174 ⟨"LathePiecesModel", "mitre", "(III)J"⟩) ∈ GW := gw_4 (List.mem_of_getElem? (i := 129) rfl) rfl
theorem g_850 : (Cond.instanceMethod ⟨"LathePiecesModel", "mitre", "(III)J"⟩) ∈ GW := gw_4 (List.mem_of_getElem? (i := 130) rfl) rfl
theorem g_851 : (Cond.selects "LathePiecesModel" ⟨"LathePiecesModel", "mitre", "(III)J"⟩ ⟨"LathePiecesModel", "mitre", "(III)J"⟩) ∈ GW := gw_4 (List.mem_of_getElem? (i := 131) rfl) rfl
theorem g_852 : (Cond.code ⟨"LathePiecesModel", "mitre", "(III)J"⟩ prog_8_method_36_code 5 (Option.some FieldType.long)) ∈ GW := gw_4 (List.mem_of_getElem? (i := 132) rfl) rfl
theorem g_853 : (Cond.methodLink "LathePiecesModel" 165 ⟨"LathePiecesModel", "partOf", "(JJI)J"⟩) ∈ GW := gw_4 (List.mem_of_getElem? (i := 133) rfl) rfl
theorem g_854 : (Cond.static ⟨"LathePiecesModel", "partOf", "(JJI)J"⟩) ∈ GW := gw_4 (List.mem_of_getElem? (i := 134) rfl) rfl
theorem g_855 : (Cond.code ⟨"LathePiecesModel", "partOf", "(JJI)J"⟩ prog_8_method_35_code 11 (Option.some FieldType.long)) ∈ GW := gw_4 (List.mem_of_getElem? (i := 135) rfl) rfl
theorem g_856 : (Cond.methodLink "LathePiecesLaw" 177 ⟨"LathePiecesModel", "gap", "(II)J"⟩) ∈ GW := gw_4 (List.mem_of_getElem? (i := 136) rfl) rfl
theorem g_857 : (Cond.instanceMethod ⟨"LathePiecesModel", "gap", "(II)J"⟩) ∈ GW := gw_4 (List.mem_of_getElem? (i := 137) rfl) rfl
theorem g_858 : (Cond.selects "LathePiecesModel" ⟨"LathePiecesModel", "gap", "(II)J"⟩ ⟨"LathePiecesModel", "gap", "(II)J"⟩) ∈ GW := gw_4 (List.mem_of_getElem? (i := 138) rfl) rfl
theorem g_859 : (Cond.code ⟨"LathePiecesModel", "gap", "(II)J"⟩ prog_8_method_38_code 3 (Option.some FieldType.long)) ∈ GW := gw_4 (List.mem_of_getElem? (i := 139) rfl) rfl
theorem g_860 : (Cond.methodLink "LathePiecesModel" 171 ⟨"LathePiecesModel", "gapOf", "(I)J"⟩) ∈ GW := gw_4 (List.mem_of_getElem? (i := 140) rfl) rfl
theorem g_861 : (Cond.privateMethod ⟨"LathePiecesModel", "gapOf", "(I)J"⟩) ∈ lw_tbl := tb_4 (List.mem_of_getElem? (i := 141) rfl)
theorem g_862 : (Cond.instanceMethod ⟨"LathePiecesModel", "gapOf", "(I)J"⟩) ∈ GW := gw_4 (List.mem_of_getElem? (i := 142) rfl) rfl
theorem g_863 : (Cond.code ⟨"LathePiecesModel", "gapOf", "(I)J"⟩ prog_8_method_37_code 5 (Option.some FieldType.long)) ∈ GW := gw_4 (List.mem_of_getElem? (i := 143) rfl) rfl
theorem g_864 : (Cond.constantLong "LathePiecesModel" 169 (9979200 : Int64)) ∈ GW := gw_4 (List.mem_of_getElem? (i := 144) rfl) rfl
theorem g_865 : (Cond.constantLong "LathePiecesModel" 175 (27720 : Int64)) ∈ GW := gw_4 (List.mem_of_getElem? (i := 145) rfl) rfl
theorem g_866 : (Cond.methodLink "LathePiecesLaw" 180 ⟨"LathePiecesModel", "closes", "(I)Z"⟩) ∈ GW := gw_4 (List.mem_of_getElem? (i := 146) rfl) rfl
theorem g_867 : (Cond.instanceMethod ⟨"LathePiecesModel", "closes", "(I)Z"⟩) ∈ GW := gw_4 (List.mem_of_getElem? (i := 147) rfl) rfl
theorem g_868 : (Cond.selects "LathePiecesModel" ⟨"LathePiecesModel", "closes", "(I)Z"⟩ ⟨"LathePiecesModel", "closes", "(I)Z"⟩) ∈ GW := gw_4 (List.mem_of_getElem? (i := 148) rfl) rfl
theorem g_869 : (Cond.code ⟨"LathePiecesModel", "closes", "(I)Z"⟩ prog_8_method_39_code 2 (Option.some FieldType.boolean)) ∈ GW := gw_4 (List.mem_of_getElem? (i := 149) rfl) rfl
theorem g_870 : (Cond.methodLink "LathePiecesLaw" 183 ⟨"LathePiecesModel", "flute", "(III)J"⟩) ∈ GW := gw_4 (List.mem_of_getElem? (i := 150) rfl) rfl
theorem g_871 : (Cond.instanceMethod ⟨"LathePiecesModel", "flute", "(III)J"⟩) ∈ GW := gw_4 (List.mem_of_getElem? (i := 151) rfl) rfl
theorem g_872 : (Cond.selects "LathePiecesModel" ⟨"LathePiecesModel", "flute", "(III)J"⟩ ⟨"LathePiecesModel", "flute", "(III)J"⟩) ∈ GW := gw_4 (List.mem_of_getElem? (i := 152) rfl) rfl
theorem g_873 : (Cond.code ⟨"LathePiecesModel", "flute", "(III)J"⟩ prog_8_method_40_code 4 (Option.some FieldType.long)) ∈ GW := gw_4 (List.mem_of_getElem? (i := 153) rfl) rfl
theorem g_874 : (Cond.constantLong "LathePiecesModel" 177 (1000 : Int64)) ∈ GW := gw_4 (List.mem_of_getElem? (i := 154) rfl) rfl
theorem g_875 : (Cond.constantLong "LathePiecesModel" 179 (360 : Int64)) ∈ GW := gw_4 (List.mem_of_getElem? (i := 155) rfl) rfl
theorem g_876 : (Cond.methodLink "LathePiecesLaw" 187 ⟨"LathePiecesModel", "thread", "(II)V"⟩) ∈ GW := gw_4 (List.mem_of_getElem? (i := 156) rfl) rfl
theorem g_877 : (Cond.instanceMethod ⟨"LathePiecesModel", "thread", "(II)V"⟩) ∈ GW := gw_4 (List.mem_of_getElem? (i := 157) rfl) rfl
theorem g_878 : (Cond.selects "LathePiecesModel" ⟨"LathePiecesModel", "thread", "(II)V"⟩ ⟨"LathePiecesModel", "thread", "(II)V"⟩) ∈ GW := gw_4 (List.mem_of_getElem? (i := 158) rfl) rfl
theorem g_879 : (Cond.code ⟨"LathePiecesModel", "thread", "(II)V"⟩ prog_8_method_41_code 3 (Option.none : Option FieldType)) ∈ GW := gw_4 (List.mem_of_getElem? (i := 159) rfl) rfl
theorem g_880 : (Cond.methodLink "LathePiecesLaw" 190 ⟨"LathePiecesModel", "threadAt", "(II)J"⟩) ∈ GW := gw_4 (List.mem_of_getElem? (i := 160) rfl) rfl
theorem g_881 : (Cond.instanceMethod ⟨"LathePiecesModel", "threadAt", "(II)J"⟩) ∈ GW := gw_4 (List.mem_of_getElem? (i := 161) rfl) rfl
theorem g_882 : (Cond.selects "LathePiecesModel" ⟨"LathePiecesModel", "threadAt", "(II)J"⟩ ⟨"LathePiecesModel", "threadAt", "(II)J"⟩) ∈ GW := gw_4 (List.mem_of_getElem? (i := 162) rfl) rfl
theorem g_883 : (Cond.code ⟨"LathePiecesModel", "threadAt", "(II)J"⟩ prog_8_method_42_code 3 (Option.some FieldType.long)) ∈ GW := gw_4 (List.mem_of_getElem? (i := 163) rfl) rfl
theorem g_884 : (Cond.methodLink "LathePiecesLaw" 193 ⟨"LathePiecesModel", "row", "(II)I"⟩) ∈ GW := gw_4 (List.mem_of_getElem? (i := 164) rfl) rfl
theorem g_885 : (Cond.instanceMethod ⟨"LathePiecesModel", "row", "(II)I"⟩) ∈ GW := gw_4 (List.mem_of_getElem? (i := 165) rfl) rfl
theorem g_886 : (Cond.selects "LathePiecesModel" ⟨"LathePiecesModel", "row", "(II)I"⟩ ⟨"LathePiecesModel", "row", "(II)I"⟩) ∈ GW := gw_4 (List.mem_of_getElem? (i := 166) rfl) rfl
theorem g_887 : (Cond.code ⟨"LathePiecesModel", "row", "(II)I"⟩ prog_8_method_43_code 4 (Option.some FieldType.int)) ∈ GW := gw_4 (List.mem_of_getElem? (i := 167) rfl) rfl
theorem g_888 : (Cond.constantLong "LathePiecesModel" 190 (10000 : Int64)) ∈ GW := gw_4 (List.mem_of_getElem? (i := 168) rfl) rfl
theorem g_889 : (Cond.methodLink "LathePiecesLaw" 196 ⟨"LathePiecesModel", "speed", "(II)I"⟩) ∈ GW := gw_4 (List.mem_of_getElem? (i := 169) rfl) rfl
theorem g_890 : (Cond.instanceMethod ⟨"LathePiecesModel", "speed", "(II)I"⟩) ∈ GW := gw_4 (List.mem_of_getElem? (i := 170) rfl) rfl
theorem g_891 : (Cond.selects "LathePiecesModel" ⟨"LathePiecesModel", "speed", "(II)I"⟩ ⟨"LathePiecesModel", "speed", "(II)I"⟩) ∈ GW := gw_4 (List.mem_of_getElem? (i := 171) rfl) rfl
theorem g_892 : (Cond.code ⟨"LathePiecesModel", "speed", "(II)I"⟩ prog_8_method_44_code 4 (Option.some FieldType.int)) ∈ GW := gw_4 (List.mem_of_getElem? (i := 172) rfl) rfl
theorem g_893 : (Cond.arrayClass FieldType.long) ∈ GW := gw_4 (List.mem_of_getElem? (i := 173) rfl) rfl
theorem g_894 : (Cond.sameMethod "java/lang/Throwable" "java/lang/Throwable" "fillInStackTrace" "(I)Ljava/lang/Throwable;") ∈ GW := gw_4 (List.mem_of_getElem? (i := 174) rfl) rfl
theorem gs_C_checkBehindLast : (Cond.selects "LathePieces" ⟨"LathePieces", "checkBehindLast", "(I)V"⟩ ⟨"LathePieces", "checkBehindLast", "(I)V"⟩) ∈ GW := gw_sel (List.mem_map.mpr ⟨(⟨"LathePieces", "checkBehindLast", "(I)V"⟩, 13), List.mem_append_left _ (List.mem_of_getElem? (i := 1) rfl), rfl⟩) rfl
theorem gs_C_radiusAt : (Cond.selects "LathePieces" ⟨"LathePieces", "radiusAt", "(II)I"⟩ ⟨"LathePieces", "radiusAt", "(II)I"⟩) ∈ GW := gw_sel (List.mem_map.mpr ⟨(⟨"LathePieces", "radiusAt", "(II)I"⟩, 13), List.mem_append_left _ (List.mem_of_getElem? (i := 2) rfl), rfl⟩) rfl
theorem gs_C_pieceAt : (Cond.selects "LathePieces" ⟨"LathePieces", "pieceAt", "(I)LLathePieces$Piece;"⟩ ⟨"LathePieces", "pieceAt", "(I)LLathePieces$Piece;"⟩) ∈ GW := gw_sel (List.mem_map.mpr ⟨(⟨"LathePieces", "pieceAt", "(I)LLathePieces$Piece;"⟩, 13), List.mem_append_left _ (List.mem_of_getElem? (i := 3) rfl), rfl⟩) rfl
theorem gs_C_reachOf : (Cond.selects "LathePieces" ⟨"LathePieces", "reachOf", "(II)LLathePieces$Reach;"⟩ ⟨"LathePieces", "reachOf", "(II)LLathePieces$Reach;"⟩) ∈ GW := gw_sel (List.mem_map.mpr ⟨(⟨"LathePieces", "reachOf", "(II)LLathePieces$Reach;"⟩, 13), List.mem_append_left _ (List.mem_of_getElem? (i := 4) rfl), rfl⟩) rfl
theorem gs_C_noseAt : (Cond.selects "LathePieces" ⟨"LathePieces", "noseAt", "(I)LLathePieces$Nose;"⟩ ⟨"LathePieces", "noseAt", "(I)LLathePieces$Nose;"⟩) ∈ GW := gw_sel (List.mem_map.mpr ⟨(⟨"LathePieces", "noseAt", "(I)LLathePieces$Nose;"⟩, 13), List.mem_append_left _ (List.mem_of_getElem? (i := 5) rfl), rfl⟩) rfl
theorem gs_C_ringAt : (Cond.selects "LathePieces" ⟨"LathePieces", "ringAt", "(I)LLathePieces$Ring;"⟩ ⟨"LathePieces", "ringAt", "(I)LLathePieces$Ring;"⟩) ∈ GW := gw_sel (List.mem_map.mpr ⟨(⟨"LathePieces", "ringAt", "(I)LLathePieces$Ring;"⟩, 13), List.mem_append_left _ (List.mem_of_getElem? (i := 6) rfl), rfl⟩) rfl
theorem gs_M_look : (Cond.selects "LathePiecesModel" ⟨"LathePiecesModel", "look", "(II)V"⟩ ⟨"LathePiecesModel", "look", "(II)V"⟩) ∈ GW := gw_sel (List.mem_map.mpr ⟨(⟨"LathePiecesModel", "look", "(II)V"⟩, 26), List.mem_append_left _ (List.mem_of_getElem? (i := 7) rfl), rfl⟩) rfl
theorem gs_M_lastAt : (Cond.selects "LathePiecesModel" ⟨"LathePiecesModel", "lastAt", "()I"⟩ ⟨"LathePiecesModel", "lastAt", "()I"⟩) ∈ GW := gw_sel (List.mem_map.mpr ⟨(⟨"LathePiecesModel", "lastAt", "()I"⟩, 26), List.mem_append_left _ (List.mem_of_getElem? (i := 8) rfl), rfl⟩) rfl
theorem gs_M_add : (Cond.selects "LathePiecesModel" ⟨"LathePiecesModel", "add", "(IIIII)V"⟩ ⟨"LathePiecesModel", "add", "(IIIII)V"⟩) ∈ GW := gw_sel (List.mem_map.mpr ⟨(⟨"LathePiecesModel", "add", "(IIIII)V"⟩, 26), List.mem_append_left _ (List.mem_of_getElem? (i := 9) rfl), rfl⟩) rfl
theorem gs_M_lastRadius : (Cond.selects "LathePiecesModel" ⟨"LathePiecesModel", "lastRadius", "()I"⟩ ⟨"LathePiecesModel", "lastRadius", "()I"⟩) ∈ GW := gw_sel (List.mem_map.mpr ⟨(⟨"LathePiecesModel", "lastRadius", "()I"⟩, 26), List.mem_append_left _ (List.mem_of_getElem? (i := 10) rfl), rfl⟩) rfl
theorem gs_M_onWay : (Cond.selects "LathePiecesModel" ⟨"LathePiecesModel", "onWay", "(IIII)I"⟩ ⟨"LathePiecesModel", "onWay", "(IIII)I"⟩) ∈ GW := gw_sel (List.mem_map.mpr ⟨(⟨"LathePiecesModel", "onWay", "(IIII)I"⟩, 26), List.mem_append_left _ (List.mem_of_getElem? (i := 11) rfl), rfl⟩) rfl
theorem gs_M_hasPlace : (Cond.selects "LathePiecesModel" ⟨"LathePiecesModel", "hasPlace", "(II)Z"⟩ ⟨"LathePiecesModel", "hasPlace", "(II)Z"⟩) ∈ GW := gw_sel (List.mem_map.mpr ⟨(⟨"LathePiecesModel", "hasPlace", "(II)Z"⟩, 26), List.mem_append_left _ (List.mem_of_getElem? (i := 12) rfl), rfl⟩) rfl
theorem gs_M_isPiece : (Cond.selects "LathePiecesModel" ⟨"LathePiecesModel", "isPiece", "(I)Z"⟩ ⟨"LathePiecesModel", "isPiece", "(I)Z"⟩) ∈ GW := gw_sel (List.mem_map.mpr ⟨(⟨"LathePiecesModel", "isPiece", "(I)Z"⟩, 26), List.mem_append_left _ (List.mem_of_getElem? (i := 13) rfl), rfl⟩) rfl
theorem gs_M_blank : (Cond.selects "LathePiecesModel" ⟨"LathePiecesModel", "blank", "(I)I"⟩ ⟨"LathePiecesModel", "blank", "(I)I"⟩) ∈ GW := gw_sel (List.mem_map.mpr ⟨(⟨"LathePiecesModel", "blank", "(I)I"⟩, 26), List.mem_append_left _ (List.mem_of_getElem? (i := 14) rfl), rfl⟩) rfl
theorem gs_M_reachAll : (Cond.selects "LathePiecesModel" ⟨"LathePiecesModel", "reachAll", "(II)V"⟩ ⟨"LathePiecesModel", "reachAll", "(II)V"⟩) ∈ GW := gw_sel (List.mem_map.mpr ⟨(⟨"LathePiecesModel", "reachAll", "(II)V"⟩, 26), List.mem_append_left _ (List.mem_of_getElem? (i := 15) rfl), rfl⟩) rfl
theorem gs_M_lookRough : (Cond.selects "LathePiecesModel" ⟨"LathePiecesModel", "lookRough", "(IIII)V"⟩ ⟨"LathePiecesModel", "lookRough", "(IIII)V"⟩) ∈ GW := gw_sel (List.mem_map.mpr ⟨(⟨"LathePiecesModel", "lookRough", "(IIII)V"⟩, 26), List.mem_append_right _ (List.mem_of_getElem? (i := 0) rfl), rfl⟩) rfl
theorem gs_M_wantedBelow : (Cond.selects "LathePiecesModel" ⟨"LathePiecesModel", "wantedBelow", "(IIJ)I"⟩ ⟨"LathePiecesModel", "wantedBelow", "(IIJ)I"⟩) ∈ GW := gw_sel (List.mem_map.mpr ⟨(⟨"LathePiecesModel", "wantedBelow", "(IIJ)I"⟩, 26), List.mem_append_right _ (List.mem_of_getElem? (i := 1) rfl), rfl⟩) rfl
theorem gs_M_nextHeld : (Cond.selects "LathePiecesModel" ⟨"LathePiecesModel", "nextHeld", "(III)I"⟩ ⟨"LathePiecesModel", "nextHeld", "(III)I"⟩) ∈ GW := gw_sel (List.mem_map.mpr ⟨(⟨"LathePiecesModel", "nextHeld", "(III)I"⟩, 26), List.mem_append_right _ (List.mem_of_getElem? (i := 2) rfl), rfl⟩) rfl
theorem gs_M_gapOf : (Cond.selects "LathePiecesModel" ⟨"LathePiecesModel", "gapOf", "(I)J"⟩ ⟨"LathePiecesModel", "gapOf", "(I)J"⟩) ∈ GW := gw_sel (List.mem_map.mpr ⟨(⟨"LathePiecesModel", "gapOf", "(I)J"⟩, 26), List.mem_append_right _ (List.mem_of_getElem? (i := 3) rfl), rfl⟩) rfl
theorem in_N : ∀ w ∈ u_ws R_N F_N 1, w ∈ GW := by
  intro w hw
  obtain ⟨k, hk, rfl⟩ := List.mem_map.mp hw
  have hk := List.mem_range.mp hk
  match k, hk with
  | 0, _ => exact g_357
  | k + 1, hk => exact absurd hk (by omega)
theorem in_P : ∀ w ∈ u_ws R_P F_P 4, w ∈ GW := by
  intro w hw
  obtain ⟨k, hk, rfl⟩ := List.mem_map.mp hw
  have hk := List.mem_range.mp hk
  match k, hk with
  | 0, _ => exact g_291
  | 1, _ => exact g_293
  | 2, _ => exact g_295
  | 3, _ => exact g_297
  | k + 4, hk => exact absurd hk (by omega)
theorem in_F : ∀ w ∈ u_ws R_F F_F 5, w ∈ GW := by
  intro w hw
  obtain ⟨k, hk, rfl⟩ := List.mem_map.mp hw
  have hk := List.mem_range.mp hk
  match k, hk with
  | 0, _ => exact g_42
  | 1, _ => exact g_44
  | 2, _ => exact g_46
  | 3, _ => exact g_48
  | 4, _ => exact g_50
  | k + 5, hk => exact absurd hk (by omega)
theorem in_R : ∀ w ∈ u_ws R_R F_R 1, w ∈ GW := by
  intro w hw
  obtain ⟨k, hk, rfl⟩ := List.mem_map.mp hw
  have hk := List.mem_range.mp hk
  match k, hk with
  | 0, _ => exact g_394
  | k + 1, hk => exact absurd hk (by omega)
theorem in_G : ∀ w ∈ u_ws R_G F_G 4, w ∈ GW := by
  intro w hw
  obtain ⟨k, hk, rfl⟩ := List.mem_map.mp hw
  have hk := List.mem_range.mp hk
  match k, hk with
  | 0, _ => exact g_512
  | 1, _ => exact g_514
  | 2, _ => exact g_516
  | 3, _ => exact g_518
  | k + 4, hk => exact absurd hk (by omega)
theorem in_C : ∀ w ∈ u_ws R_C F_C 13, w ∈ GW := by
  intro w hw
  obtain ⟨k, hk, rfl⟩ := List.mem_map.mp hw
  have hk := List.mem_range.mp hk
  match k, hk with
  | 0, _ => exact g_75
  | 1, _ => exact g_77
  | 2, _ => exact g_79
  | 3, _ => exact g_81
  | 4, _ => exact g_83
  | 5, _ => exact g_85
  | 6, _ => exact g_87
  | 7, _ => exact g_89
  | 8, _ => exact g_91
  | 9, _ => exact g_93
  | 10, _ => exact g_95
  | 11, _ => exact g_97
  | 12, _ => exact g_99
  | k + 13, hk => exact absurd hk (by omega)
theorem in_M : ∀ w ∈ u_ws R_M F_M 26, w ∈ GW := by
  intro w hw
  obtain ⟨k, hk, rfl⟩ := List.mem_map.mp hw
  have hk := List.mem_range.mp hk
  match k, hk with
  | 0, _ => exact g_653
  | 1, _ => exact g_655
  | 2, _ => exact g_657
  | 3, _ => exact g_659
  | 4, _ => exact g_661
  | 5, _ => exact g_663
  | 6, _ => exact g_665
  | 7, _ => exact g_667
  | 8, _ => exact g_669
  | 9, _ => exact g_671
  | 10, _ => exact g_673
  | 11, _ => exact g_675
  | 12, _ => exact g_677
  | 13, _ => exact g_679
  | 14, _ => exact g_681
  | 15, _ => exact g_683
  | 16, _ => exact g_685
  | 17, _ => exact g_687
  | 18, _ => exact g_689
  | 19, _ => exact g_691
  | 20, _ => exact g_693
  | 21, _ => exact g_695
  | 22, _ => exact g_697
  | 23, _ => exact g_699
  | 24, _ => exact g_701
  | 25, _ => exact g_703
  | k + 26, hk => exact absurd hk (by omega)
