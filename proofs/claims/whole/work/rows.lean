section
-- ===== PART A: goes FIRST, ahead of the names: the tables' words, and 'selects' of the private methods out of them =====
/-- a private method of a class that the tables say can be made, by its rows of tables_1 -/
def lw_okq (q : MethodName × Nat) : Prop := (q.1.cls ≠ "java/lang/invoke/MethodHandle" ∧ q.1.cls ≠ "java/lang/invoke/VarHandle") ∧ Cond.instantiable q.1.cls q.2 ∈ tables_1 ∧ Cond.privateMethod q.1 ∈ tables_1 ∧ Cond.instanceMethod q.1 ∈ tables_1
theorem lw_p0 : lw_okq (⟨"java/lang/Throwable", "fillInStackTrace", "(I)Ljava/lang/Throwable;"⟩, 6) := ⟨⟨by decide +kernel, by decide +kernel⟩, List.mem_of_getElem? (i := 152) (by decide +kernel), List.mem_of_getElem? (i := 150) (by decide +kernel), List.mem_of_getElem? (i := 151) (by decide +kernel)⟩
theorem lw_p1 : lw_okq (⟨"LathePieces", "checkBehindLast", "(I)V"⟩, 13) := ⟨⟨by decide +kernel, by decide +kernel⟩, List.mem_of_getElem? (i := 18) (by decide +kernel), List.mem_of_getElem? (i := 197) (by decide +kernel), List.mem_of_getElem? (i := 198) (by decide +kernel)⟩
theorem lw_p2 : lw_okq (⟨"LathePieces", "radiusAt", "(II)I"⟩, 13) := ⟨⟨by decide +kernel, by decide +kernel⟩, List.mem_of_getElem? (i := 18) (by decide +kernel), List.mem_of_getElem? (i := 309) (by decide +kernel), List.mem_of_getElem? (i := 310) (by decide +kernel)⟩
theorem lw_p3 : lw_okq (⟨"LathePieces", "pieceAt", "(I)LLathePieces$Piece;"⟩, 13) := ⟨⟨by decide +kernel, by decide +kernel⟩, List.mem_of_getElem? (i := 18) (by decide +kernel), List.mem_of_getElem? (i := 313) (by decide +kernel), List.mem_of_getElem? (i := 314) (by decide +kernel)⟩
theorem lw_p4 : lw_okq (⟨"LathePieces", "reachOf", "(II)LLathePieces$Reach;"⟩, 13) := ⟨⟨by decide +kernel, by decide +kernel⟩, List.mem_of_getElem? (i := 18) (by decide +kernel), List.mem_of_getElem? (i := 368) (by decide +kernel), List.mem_of_getElem? (i := 369) (by decide +kernel)⟩
theorem lw_p5 : lw_okq (⟨"LathePieces", "noseAt", "(I)LLathePieces$Nose;"⟩, 13) := ⟨⟨by decide +kernel, by decide +kernel⟩, List.mem_of_getElem? (i := 18) (by decide +kernel), List.mem_of_getElem? (i := 372) (by decide +kernel), List.mem_of_getElem? (i := 373) (by decide +kernel)⟩
theorem lw_p6 : lw_okq (⟨"LathePieces", "ringAt", "(I)LLathePieces$Ring;"⟩, 13) := ⟨⟨by decide +kernel, by decide +kernel⟩, List.mem_of_getElem? (i := 18) (by decide +kernel), List.mem_of_getElem? (i := 527) (by decide +kernel), List.mem_of_getElem? (i := 528) (by decide +kernel)⟩
theorem lw_p7 : lw_okq (⟨"LathePiecesModel", "look", "(II)V"⟩, 26) := ⟨⟨by decide +kernel, by decide +kernel⟩, List.mem_of_getElem? (i := 620) (by decide +kernel), List.mem_of_getElem? (i := 721) (by decide +kernel), List.mem_of_getElem? (i := 722) (by decide +kernel)⟩
theorem lw_p8 : lw_okq (⟨"LathePiecesModel", "lastAt", "()I"⟩, 26) := ⟨⟨by decide +kernel, by decide +kernel⟩, List.mem_of_getElem? (i := 620) (by decide +kernel), List.mem_of_getElem? (i := 726) (by decide +kernel), List.mem_of_getElem? (i := 727) (by decide +kernel)⟩
theorem lw_p9 : lw_okq (⟨"LathePiecesModel", "add", "(IIIII)V"⟩, 26) := ⟨⟨by decide +kernel, by decide +kernel⟩, List.mem_of_getElem? (i := 620) (by decide +kernel), List.mem_of_getElem? (i := 730) (by decide +kernel), List.mem_of_getElem? (i := 731) (by decide +kernel)⟩
theorem lw_p10 : lw_okq (⟨"LathePiecesModel", "lastRadius", "()I"⟩, 26) := ⟨⟨by decide +kernel, by decide +kernel⟩, List.mem_of_getElem? (i := 620) (by decide +kernel), List.mem_of_getElem? (i := 742) (by decide +kernel), List.mem_of_getElem? (i := 743) (by decide +kernel)⟩
theorem lw_p11 : lw_okq (⟨"LathePiecesModel", "onWay", "(IIII)I"⟩, 26) := ⟨⟨by decide +kernel, by decide +kernel⟩, List.mem_of_getElem? (i := 620) (by decide +kernel), List.mem_of_getElem? (i := 753) (by decide +kernel), List.mem_of_getElem? (i := 754) (by decide +kernel)⟩
theorem lw_p12 : lw_okq (⟨"LathePiecesModel", "hasPlace", "(II)Z"⟩, 26) := ⟨⟨by decide +kernel, by decide +kernel⟩, List.mem_of_getElem? (i := 620) (by decide +kernel), List.mem_of_getElem? (i := 764) (by decide +kernel), List.mem_of_getElem? (i := 765) (by decide +kernel)⟩
theorem lw_p13 : lw_okq (⟨"LathePiecesModel", "isPiece", "(I)Z"⟩, 26) := ⟨⟨by decide +kernel, by decide +kernel⟩, List.mem_of_getElem? (i := 620) (by decide +kernel), List.mem_of_getElem? (i := 768) (by decide +kernel), List.mem_of_getElem? (i := 769) (by decide +kernel)⟩
theorem lw_p14 : lw_okq (⟨"LathePiecesModel", "blank", "(I)I"⟩, 26) := ⟨⟨by decide +kernel, by decide +kernel⟩, List.mem_of_getElem? (i := 620) (by decide +kernel), List.mem_of_getElem? (i := 777) (by decide +kernel), List.mem_of_getElem? (i := 778) (by decide +kernel)⟩
theorem lw_p15 : lw_okq (⟨"LathePiecesModel", "reachAll", "(II)V"⟩, 26) := ⟨⟨by decide +kernel, by decide +kernel⟩, List.mem_of_getElem? (i := 620) (by decide +kernel), List.mem_of_getElem? (i := 790) (by decide +kernel), List.mem_of_getElem? (i := 791) (by decide +kernel)⟩
def lw_privs_1 : List (MethodName × Nat) := [(⟨"java/lang/Throwable", "fillInStackTrace", "(I)Ljava/lang/Throwable;"⟩, 6), (⟨"LathePieces", "checkBehindLast", "(I)V"⟩, 13), (⟨"LathePieces", "radiusAt", "(II)I"⟩, 13), (⟨"LathePieces", "pieceAt", "(I)LLathePieces$Piece;"⟩, 13), (⟨"LathePieces", "reachOf", "(II)LLathePieces$Reach;"⟩, 13), (⟨"LathePieces", "noseAt", "(I)LLathePieces$Nose;"⟩, 13), (⟨"LathePieces", "ringAt", "(I)LLathePieces$Ring;"⟩, 13), (⟨"LathePiecesModel", "look", "(II)V"⟩, 26), (⟨"LathePiecesModel", "lastAt", "()I"⟩, 26), (⟨"LathePiecesModel", "add", "(IIIII)V"⟩, 26), (⟨"LathePiecesModel", "lastRadius", "()I"⟩, 26), (⟨"LathePiecesModel", "onWay", "(IIII)I"⟩, 26), (⟨"LathePiecesModel", "hasPlace", "(II)Z"⟩, 26), (⟨"LathePiecesModel", "isPiece", "(I)Z"⟩, 26), (⟨"LathePiecesModel", "blank", "(I)I"⟩, 26), (⟨"LathePiecesModel", "reachAll", "(II)V"⟩, 26)]
theorem lw_r1 : ∀ q ∈ lw_privs_1, lw_okq q := List.forall_mem_cons.mpr ⟨lw_p0, List.forall_mem_cons.mpr ⟨lw_p1, List.forall_mem_cons.mpr ⟨lw_p2, List.forall_mem_cons.mpr ⟨lw_p3, List.forall_mem_cons.mpr ⟨lw_p4, List.forall_mem_cons.mpr ⟨lw_p5, List.forall_mem_cons.mpr ⟨lw_p6, List.forall_mem_cons.mpr ⟨lw_p7, List.forall_mem_cons.mpr ⟨lw_p8, List.forall_mem_cons.mpr ⟨lw_p9, List.forall_mem_cons.mpr ⟨lw_p10, List.forall_mem_cons.mpr ⟨lw_p11, List.forall_mem_cons.mpr ⟨lw_p12, List.forall_mem_cons.mpr ⟨lw_p13, List.forall_mem_cons.mpr ⟨lw_p14, List.forall_mem_cons.mpr ⟨lw_p15, fun _ h => absurd h List.not_mem_nil⟩⟩⟩⟩⟩⟩⟩⟩⟩⟩⟩⟩⟩⟩⟩⟩
theorem lw_p16 : lw_okq (⟨"LathePiecesModel", "lookRough", "(IIII)V"⟩, 26) := ⟨⟨by decide +kernel, by decide +kernel⟩, List.mem_of_getElem? (i := 620) (by decide +kernel), List.mem_of_getElem? (i := 802) (by decide +kernel), List.mem_of_getElem? (i := 803) (by decide +kernel)⟩
theorem lw_p17 : lw_okq (⟨"LathePiecesModel", "wantedBelow", "(IIJ)I"⟩, 26) := ⟨⟨by decide +kernel, by decide +kernel⟩, List.mem_of_getElem? (i := 620) (by decide +kernel), List.mem_of_getElem? (i := 808) (by decide +kernel), List.mem_of_getElem? (i := 809) (by decide +kernel)⟩
theorem lw_p18 : lw_okq (⟨"LathePiecesModel", "nextHeld", "(III)I"⟩, 26) := ⟨⟨by decide +kernel, by decide +kernel⟩, List.mem_of_getElem? (i := 620) (by decide +kernel), List.mem_of_getElem? (i := 820) (by decide +kernel), List.mem_of_getElem? (i := 821) (by decide +kernel)⟩
theorem lw_p19 : lw_okq (⟨"LathePiecesModel", "gapOf", "(I)J"⟩, 26) := ⟨⟨by decide +kernel, by decide +kernel⟩, List.mem_of_getElem? (i := 620) (by decide +kernel), List.mem_of_getElem? (i := 859) (by decide +kernel), List.mem_of_getElem? (i := 860) (by decide +kernel)⟩
def lw_privs_2 : List (MethodName × Nat) := [(⟨"LathePiecesModel", "lookRough", "(IIII)V"⟩, 26), (⟨"LathePiecesModel", "wantedBelow", "(IIJ)I"⟩, 26), (⟨"LathePiecesModel", "nextHeld", "(III)I"⟩, 26), (⟨"LathePiecesModel", "gapOf", "(I)J"⟩, 26)]
theorem lw_r2 : ∀ q ∈ lw_privs_2, lw_okq q := List.forall_mem_cons.mpr ⟨lw_p16, List.forall_mem_cons.mpr ⟨lw_p17, List.forall_mem_cons.mpr ⟨lw_p18, List.forall_mem_cons.mpr ⟨lw_p19, fun _ h => absurd h List.not_mem_nil⟩⟩⟩⟩
def lw_privs : List (MethodName × Nat) := lw_privs_1 ++ (lw_privs_2)
def lw_tbl : List Cond := k2_sels lw_privs ++ tables_1
theorem lw_privs_ok : ∀ q ∈ lw_privs, lw_okq q := by
  show ∀ q ∈ lw_privs_1 ++ (lw_privs_2), lw_okq q
  exact List.forall_mem_append.mpr ⟨lw_r1, lw_r2⟩
/-- the words of the tables that stay true in any later state -/
def GW : List Cond := lw_tbl.filter goodWord
theorem gw_good : ∀ w ∈ GW, goodWord w = true := fun _ h => (List.mem_filter.mp h).2
theorem gw_tbl {w : Cond} (h : w ∈ GW) : w ∈ lw_tbl := (List.mem_filter.mp h).1
theorem gw_sel {w : Cond} (h : w ∈ k2_sels lw_privs) (g : goodWord w = true) : w ∈ GW := List.mem_filter.mpr ⟨List.mem_append_left _ h, g⟩
theorem tb_1 {w : Cond} (h : w ∈ tables_1_1) : w ∈ lw_tbl := List.mem_append_right _ (show w ∈ tables_1_1 ++ (tables_1_2 ++ (tables_1_3 ++ (tables_1_4))) from List.mem_append_left _ h)
theorem gw_1 {w : Cond} (h : w ∈ tables_1_1) (g : goodWord w = true) : w ∈ GW := List.mem_filter.mpr ⟨tb_1 h, g⟩
theorem tb_2 {w : Cond} (h : w ∈ tables_1_2) : w ∈ lw_tbl := List.mem_append_right _ (show w ∈ tables_1_1 ++ (tables_1_2 ++ (tables_1_3 ++ (tables_1_4))) from List.mem_append_right _ (List.mem_append_left _ h))
theorem gw_2 {w : Cond} (h : w ∈ tables_1_2) (g : goodWord w = true) : w ∈ GW := List.mem_filter.mpr ⟨tb_2 h, g⟩
theorem tb_3 {w : Cond} (h : w ∈ tables_1_3) : w ∈ lw_tbl := List.mem_append_right _ (show w ∈ tables_1_1 ++ (tables_1_2 ++ (tables_1_3 ++ (tables_1_4))) from List.mem_append_right _ (List.mem_append_right _ (List.mem_append_left _ h)))
theorem gw_3 {w : Cond} (h : w ∈ tables_1_3) (g : goodWord w = true) : w ∈ GW := List.mem_filter.mpr ⟨tb_3 h, g⟩
theorem tb_4 {w : Cond} (h : w ∈ tables_1_4) : w ∈ lw_tbl := List.mem_append_right _ (show w ∈ tables_1_1 ++ (tables_1_2 ++ (tables_1_3 ++ (tables_1_4))) from List.mem_append_right _ (List.mem_append_right _ (List.mem_append_right _ h)))
theorem gw_4 {w : Cond} (h : w ∈ tables_1_4) (g : goodWord w = true) : w ∈ GW := List.mem_filter.mpr ⟨tb_4 h, g⟩
theorem gw_pay {s : State} {args : Array Value} (h : ∀ w ∈ GW, w.before args s = true) : ∀ w ∈ GW, ∀ (a' : Array Value) (U : State), s.WarmedH U.vm → w.before a' U = true := fun w hw a' U hW => word_at hW (good_of_word (gw_good w hw)) (h w hw)
end
section
abbrev R_F : String := "LathePieces$Profile"
def F_F : u_T := fun k => match k with
  | 0 => ("LathePieces$Profile", "radii", "[I", true)
  | 1 => ("LathePieces$Profile", "begun", "Z", false)
  | 2 => ("LathePieces$Profile", "last", "I", false)
  | 3 => ("LathePieces$Profile", "lastRadius", "I", false)
  | _ => ("LathePieces$Profile", "ways", "I", false)
def t_F : Nat → FieldType := fun k => match k with
  | 0 => .array .int
  | 1 => .boolean
  | 2 => .int
  | 3 => .int
  | _ => .int
theorem n_F : ∀ a, a < 5 → ∀ b, b < 5 → a ≠ b → (F_F a).2.1 ≠ (F_F b).2.1 := by decide +kernel
theorem t_F_ok : ∀ k, k < 5 → parseFieldDescriptor (F_F k).2.2.1 = some (t_F k) := by decide +kernel
abbrev R_C : String := "LathePieces"
def F_C : u_T := fun k => match k with
  | 0 => ("LathePieces", "profile", "LLathePieces$Profile;", true)
  | 1 => ("LathePieces", "pieces", "[LLathePieces$Piece;", true)
  | 2 => ("LathePieces", "pieceCount", "I", false)
  | 3 => ("LathePieces", "noses", "[LLathePieces$Nose;", true)
  | 4 => ("LathePieces", "noseCount", "I", false)
  | 5 => ("LathePieces", "reaches", "[LLathePieces$Reach;", true)
  | 6 => ("LathePieces", "rings", "[LLathePieces$Ring;", true)
  | 7 => ("LathePieces", "ringCount", "I", false)
  | 8 => ("LathePieces", "rowRadii", "[I", true)
  | 9 => ("LathePieces", "rowTurns", "[I", true)
  | 10 => ("LathePieces", "rowCount", "I", false)
  | 11 => ("LathePieces", "pitchAbove", "I", false)
  | _ => ("LathePieces", "pitchBelow", "I", false)
def t_C : Nat → FieldType := fun k => match k with
  | 0 => .object "LathePieces$Profile"
  | 1 => .array (.object "LathePieces$Piece")
  | 2 => .int
  | 3 => .array (.object "LathePieces$Nose")
  | 4 => .int
  | 5 => .array (.object "LathePieces$Reach")
  | 6 => .array (.object "LathePieces$Ring")
  | 7 => .int
  | 8 => .array .int
  | 9 => .array .int
  | 10 => .int
  | 11 => .int
  | _ => .int
theorem n_C : ∀ a, a < 13 → ∀ b, b < 13 → a ≠ b → (F_C a).2.1 ≠ (F_C b).2.1 := by decide +kernel
theorem t_C_ok : ∀ k, k < 13 → parseFieldDescriptor (F_C k).2.2.1 = some (t_C k) := by decide +kernel
abbrev R_P : String := "LathePieces$Piece"
def F_P : u_T := fun k => match k with
  | 0 => ("LathePieces$Piece", "radii", "[I", true)
  | 1 => ("LathePieces$Piece", "length", "I", true)
  | 2 => ("LathePieces$Piece", "blank", "I", true)
  | _ => ("LathePieces$Piece", "ways", "I", true)
def t_P : Nat → FieldType := fun k => match k with
  | 0 => .array .int
  | 1 => .int
  | 2 => .int
  | _ => .int
theorem n_P : ∀ a, a < 4 → ∀ b, b < 4 → a ≠ b → (F_P a).2.1 ≠ (F_P b).2.1 := by decide +kernel
theorem t_P_ok : ∀ k, k < 4 → parseFieldDescriptor (F_P k).2.2.1 = some (t_P k) := by decide +kernel
abbrev R_N : String := "LathePieces$Nose"
def F_N : u_T := fun k => match k with
  | _ => ("LathePieces$Nose", "heights", "[I", true)
def t_N : Nat → FieldType := fun k => match k with
  | _ => .array .int
theorem n_N : ∀ a, a < 1 → ∀ b, b < 1 → a ≠ b → (F_N a).2.1 ≠ (F_N b).2.1 := by decide +kernel
theorem t_N_ok : ∀ k, k < 1 → parseFieldDescriptor (F_N k).2.2.1 = some (t_N k) := by decide +kernel
abbrev R_R : String := "LathePieces$Reach"
def F_R : u_T := fun k => match k with
  | _ => ("LathePieces$Reach", "lows", "[I", true)
def t_R : Nat → FieldType := fun k => match k with
  | _ => .array .int
theorem n_R : ∀ a, a < 1 → ∀ b, b < 1 → a ≠ b → (F_R a).2.1 ≠ (F_R b).2.1 := by decide +kernel
theorem t_R_ok : ∀ k, k < 1 → parseFieldDescriptor (F_R k).2.2.1 = some (t_R k) := by decide +kernel
abbrev R_G : String := "LathePieces$Ring"
def F_G : u_T := fun k => match k with
  | 0 => ("LathePieces$Ring", "aboves", "[I", true)
  | 1 => ("LathePieces$Ring", "belows", "[I", true)
  | 2 => ("LathePieces$Ring", "count", "I", false)
  | _ => ("LathePieces$Ring", "sumParts", "J", false)
def t_G : Nat → FieldType := fun k => match k with
  | 0 => .array .int
  | 1 => .array .int
  | 2 => .int
  | _ => .long
theorem n_G : ∀ a, a < 4 → ∀ b, b < 4 → a ≠ b → (F_G a).2.1 ≠ (F_G b).2.1 := by decide +kernel
theorem t_G_ok : ∀ k, k < 4 → parseFieldDescriptor (F_G k).2.2.1 = some (t_G k) := by decide +kernel
abbrev R_M : String := "LathePiecesModel"
def F_M : u_T := fun k => match k with
  | 0 => ("LathePiecesModel", "code", "I", false)
  | 1 => ("LathePiecesModel", "begun", "Z", false)
  | 2 => ("LathePiecesModel", "first", "I", false)
  | 3 => ("LathePiecesModel", "ways", "I", false)
  | 4 => ("LathePiecesModel", "at", "[I", true)
  | 5 => ("LathePiecesModel", "end", "[I", true)
  | 6 => ("LathePiecesModel", "sort", "[I", true)
  | 7 => ("LathePiecesModel", "centre", "[I", true)
  | 8 => ("LathePiecesModel", "high", "[I", true)
  | 9 => ("LathePiecesModel", "pieces", "I", false)
  | 10 => ("LathePiecesModel", "length", "[I", true)
  | 11 => ("LathePiecesModel", "made", "[I", true)
  | 12 => ("LathePiecesModel", "radii", "[I", true)
  | 13 => ("LathePiecesModel", "tools", "I", false)
  | 14 => ("LathePiecesModel", "noses", "[I", true)
  | 15 => ("LathePiecesModel", "lifts", "[I", true)
  | 16 => ("LathePiecesModel", "reach", "[I", true)
  | 17 => ("LathePiecesModel", "rings", "I", false)
  | 18 => ("LathePiecesModel", "wedges", "[I", true)
  | 19 => ("LathePiecesModel", "above", "[I", true)
  | 20 => ("LathePiecesModel", "below", "[I", true)
  | 21 => ("LathePiecesModel", "pitchAbove", "I", false)
  | 22 => ("LathePiecesModel", "pitchBelow", "I", false)
  | 23 => ("LathePiecesModel", "rows", "I", false)
  | 24 => ("LathePiecesModel", "upTo", "[I", true)
  | _ => ("LathePiecesModel", "turns", "[I", true)
def t_M : Nat → FieldType := fun k => match k with
  | 0 => .int
  | 1 => .boolean
  | 2 => .int
  | 3 => .int
  | 4 => .array .int
  | 5 => .array .int
  | 6 => .array .int
  | 7 => .array .int
  | 8 => .array .int
  | 9 => .int
  | 10 => .array .int
  | 11 => .array .int
  | 12 => .array .int
  | 13 => .int
  | 14 => .array .int
  | 15 => .array .int
  | 16 => .array .int
  | 17 => .int
  | 18 => .array .int
  | 19 => .array .int
  | 20 => .array .int
  | 21 => .int
  | 22 => .int
  | 23 => .int
  | 24 => .array .int
  | _ => .array .int
theorem n_M : ∀ a, a < 26 → ∀ b, b < 26 → a ≠ b → (F_M a).2.1 ≠ (F_M b).2.1 := by decide +kernel
theorem t_M_ok : ∀ k, k < 26 → parseFieldDescriptor (F_M k).2.2.1 = some (t_M k) := by decide +kernel
abbrev R_L : String := "LathePiecesLaw"
abbrev R_J : String := "java/lang/Math"
abbrev R_A : String := "java/util/Arrays"
abbrev R_Y : String := "java/lang/System"
abbrev classes : List vw_C := [(R_N, F_N, 1), (R_P, F_P, 4), (R_F, F_F, 5), (R_R, F_R, 1), (R_G, F_G, 4), (R_C, F_C, 13), (R_M, F_M, 26)]
abbrev b_A_copyOf : ByteArray := prog_19_method_123_code
abbrev y_A_copyOf : MethodName := ⟨"java/util/Arrays", "copyOf", "([II)[I"⟩
abbrev b_C_about : ByteArray := prog_1_method_7_code
abbrev y_C_about : MethodName := ⟨"LathePieces", "about", "(II)I"⟩
abbrev b_C_arc : ByteArray := prog_1_method_4_code
abbrev y_C_arc : MethodName := ⟨"LathePieces", "arc", "(IIIIZ)Z"⟩
abbrev b_C_checkBehindLast : ByteArray := prog_1_method_33_code
abbrev y_C_checkBehindLast : MethodName := ⟨"LathePieces", "checkBehindLast", "(I)V"⟩
abbrev b_C_checkNumber : ByteArray := prog_1_method_35_code
abbrev y_C_checkNumber : MethodName := ⟨"LathePieces", "checkNumber", "(III)V"⟩
abbrev b_C_checkPart : ByteArray := prog_1_method_36_code
abbrev y_C_checkPart : MethodName := ⟨"LathePieces", "checkPart", "(I)V"⟩
abbrev b_C_checkRough : ByteArray := prog_1_method_34_code
abbrev y_C_checkRough : MethodName := ⟨"LathePieces", "checkRough", "(II)V"⟩
abbrev b_C_checkWayEnd : ByteArray := prog_1_method_32_code
abbrev y_C_checkWayEnd : MethodName := ⟨"LathePieces", "checkWayEnd", "(II)V"⟩
abbrev b_C_closes : ByteArray := prog_1_method_21_code
abbrev y_C_closes : MethodName := ⟨"LathePieces", "closes", "(I)Z"⟩
abbrev b_C_commonDivisor : ByteArray := prog_1_method_38_code
abbrev y_C_commonDivisor : MethodName := ⟨"LathePieces", "commonDivisor", "(JJ)J"⟩
abbrev b_C_copy : ByteArray := prog_1_method_16_code
abbrev y_C_copy : MethodName := ⟨"LathePieces", "copy", "(II)I"⟩
abbrev b_C_cut : ByteArray := prog_1_method_12_code
abbrev y_C_cut : MethodName := ⟨"LathePieces", "cut", "(IIIII)I"⟩
abbrev b_C_flute : ByteArray := prog_1_method_22_code
abbrev y_C_flute : MethodName := ⟨"LathePieces", "flute", "(III)J"⟩
abbrev b_C_fractionPart : ByteArray := prog_1_method_37_code
abbrev y_C_fractionPart : MethodName := ⟨"LathePieces", "fractionPart", "(JJI)J"⟩
abbrev b_C_gap : ByteArray := prog_1_method_20_code
abbrev y_C_gap : MethodName := ⟨"LathePieces", "gap", "(II)J"⟩
abbrev b_C_hollow : ByteArray := prog_1_method_15_code
abbrev y_C_hollow : MethodName := ⟨"LathePieces", "hollow", "(III)I"⟩
abbrev b_C_init : ByteArray := prog_1_method_1_code
abbrev y_C_init : MethodName := ⟨"LathePieces", "<init>", "()V"⟩
abbrev b_C_left : ByteArray := prog_1_method_10_code
abbrev y_C_left : MethodName := ⟨"LathePieces", "left", "(II)I"⟩
abbrev b_C_line : ByteArray := prog_1_method_3_code
abbrev y_C_line : MethodName := ⟨"LathePieces", "line", "(II)I"⟩
abbrev b_C_mitre : ByteArray := prog_1_method_19_code
abbrev y_C_mitre : MethodName := ⟨"LathePieces", "mitre", "(III)J"⟩
abbrev b_C_noseAt : ByteArray := prog_1_method_28_code
abbrev y_C_noseAt : MethodName := ⟨"LathePieces", "noseAt", "(I)LLathePieces$Nose;"⟩
abbrev b_C_passes : ByteArray := prog_1_method_11_code
abbrev y_C_passes : MethodName := ⟨"LathePieces", "passes", "(IIII)I"⟩
abbrev b_C_pieceAt : ByteArray := prog_1_method_27_code
abbrev y_C_pieceAt : MethodName := ⟨"LathePieces", "pieceAt", "(I)LLathePieces$Piece;"⟩
abbrev b_C_radius : ByteArray := prog_1_method_6_code
abbrev y_C_radius : MethodName := ⟨"LathePieces", "radius", "(II)I"⟩
abbrev b_C_radiusAt : ByteArray := prog_1_method_30_code
abbrev y_C_radiusAt : MethodName := ⟨"LathePieces", "radiusAt", "(II)I"⟩
abbrev b_C_reachOf : ByteArray := prog_1_method_31_code
abbrev y_C_reachOf : MethodName := ⟨"LathePieces", "reachOf", "(II)LLathePieces$Reach;"⟩
abbrev b_C_reached : ByteArray := prog_1_method_9_code
abbrev y_C_reached : MethodName := ⟨"LathePieces", "reached", "(III)I"⟩
abbrev b_C_ring : ByteArray := prog_1_method_17_code
abbrev y_C_ring : MethodName := ⟨"LathePieces", "ring", "()I"⟩
abbrev b_C_ringAt : ByteArray := prog_1_method_29_code
abbrev y_C_ringAt : MethodName := ⟨"LathePieces", "ringAt", "(I)LLathePieces$Ring;"⟩
abbrev b_C_row : ByteArray := prog_1_method_25_code
abbrev y_C_row : MethodName := ⟨"LathePieces", "row", "(II)I"⟩
abbrev b_C_speed : ByteArray := prog_1_method_26_code
abbrev y_C_speed : MethodName := ⟨"LathePieces", "speed", "(II)I"⟩
abbrev b_C_start : ByteArray := prog_1_method_2_code
abbrev y_C_start : MethodName := ⟨"LathePieces", "start", "(I)V"⟩
abbrev b_C_steady : ByteArray := prog_1_method_13_code
abbrev y_C_steady : MethodName := ⟨"LathePieces", "steady", "(III)I"⟩
abbrev b_C_thread : ByteArray := prog_1_method_23_code
abbrev y_C_thread : MethodName := ⟨"LathePieces", "thread", "(II)V"⟩
abbrev b_C_threadAt : ByteArray := prog_1_method_24_code
abbrev y_C_threadAt : MethodName := ⟨"LathePieces", "threadAt", "(II)J"⟩
abbrev b_C_tool : ByteArray := prog_1_method_8_code
abbrev y_C_tool : MethodName := ⟨"LathePieces", "tool", "(I)I"⟩
abbrev b_C_turn : ByteArray := prog_1_method_5_code
abbrev y_C_turn : MethodName := ⟨"LathePieces", "turn", "()I"⟩
abbrev b_C_volume : ByteArray := prog_1_method_14_code
abbrev y_C_volume : MethodName := ⟨"LathePieces", "volume", "(IZ)J"⟩
abbrev b_C_wedge : ByteArray := prog_1_method_18_code
abbrev y_C_wedge : MethodName := ⟨"LathePieces", "wedge", "(III)I"⟩
abbrev b_C_wholeRoot : ByteArray := prog_1_method_39_code
abbrev y_C_wholeRoot : MethodName := ⟨"LathePieces", "wholeRoot", "(I)I"⟩
abbrev b_F_addArc : ByteArray := prog_4_method_5_code
abbrev y_F_addArc : MethodName := ⟨"LathePieces$Profile", "addArc", "(IIIIZ)V"⟩
abbrev b_F_addLine : ByteArray := prog_4_method_3_code
abbrev y_F_addLine : MethodName := ⟨"LathePieces$Profile", "addLine", "(II)V"⟩
abbrev b_F_arcFits : ByteArray := prog_4_method_4_code
abbrev y_F_arcFits : MethodName := ⟨"LathePieces$Profile", "arcFits", "(IIIIZ)Z"⟩
abbrev b_F_begin : ByteArray := prog_4_method_2_code
abbrev y_F_begin : MethodName := ⟨"LathePieces$Profile", "begin", "(I)V"⟩
abbrev b_F_goOnFrom : ByteArray := prog_4_method_6_code
abbrev y_F_goOnFrom : MethodName := ⟨"LathePieces$Profile", "goOnFrom", "(II)V"⟩
abbrev b_F_init : ByteArray := prog_4_method_1_code
abbrev y_F_init : MethodName := ⟨"LathePieces$Profile", "<init>", "()V"⟩
abbrev b_F_squareFar : ByteArray := prog_4_method_7_code
abbrev y_F_squareFar : MethodName := ⟨"LathePieces$Profile", "squareFar", "(II)I"⟩
abbrev b_G_addWedge : ByteArray := prog_6_method_2_code
abbrev y_G_addWedge : MethodName := ⟨"LathePieces$Ring", "addWedge", "(II)V"⟩
abbrev b_G_gapParts : ByteArray := prog_6_method_3_code
abbrev y_G_gapParts : MethodName := ⟨"LathePieces$Ring", "gapParts", "()J"⟩
abbrev b_G_init : ByteArray := prog_6_method_1_code
abbrev y_G_init : MethodName := ⟨"LathePieces$Ring", "<init>", "()V"⟩
abbrev b_J_abs : ByteArray := prog_14_method_59_code
abbrev y_J_abs : MethodName := ⟨"java/lang/Math", "abs", "(I)I"⟩
abbrev b_J_abs_JJ : ByteArray := prog_14_method_61_code
abbrev y_J_abs_JJ : MethodName := ⟨"java/lang/Math", "abs", "(J)J"⟩
abbrev b_J_floorDiv : ByteArray := prog_14_method_47_code
abbrev y_J_floorDiv : MethodName := ⟨"java/lang/Math", "floorDiv", "(II)I"⟩
abbrev b_J_max : ByteArray := prog_14_method_65_code
abbrev y_J_max : MethodName := ⟨"java/lang/Math", "max", "(II)I"⟩
abbrev b_J_min : ByteArray := prog_14_method_69_code
abbrev y_J_min : MethodName := ⟨"java/lang/Math", "min", "(II)I"⟩
abbrev b_L_about : ByteArray := method_8_code
abbrev y_L_about : MethodName := ⟨"LathePiecesLaw", "about", "(LLathePieces;II[J)I"⟩
abbrev b_L_arc : ByteArray := method_5_code
abbrev y_L_arc : MethodName := ⟨"LathePiecesLaw", "arc", "(LLathePieces;IIIIZ[J)I"⟩
abbrev b_L_closes : ByteArray := method_22_code
abbrev y_L_closes : MethodName := ⟨"LathePiecesLaw", "closes", "(LLathePieces;I[J)I"⟩
abbrev b_L_copy : ByteArray := method_17_code
abbrev y_L_copy : MethodName := ⟨"LathePiecesLaw", "copy", "(LLathePieces;II[J)I"⟩
abbrev b_L_cut : ByteArray := method_13_code
abbrev y_L_cut : MethodName := ⟨"LathePiecesLaw", "cut", "(LLathePieces;IIIII[J)I"⟩
abbrev b_L_flute : ByteArray := method_23_code
abbrev y_L_flute : MethodName := ⟨"LathePiecesLaw", "flute", "(LLathePieces;III[J)I"⟩
abbrev b_L_gap : ByteArray := method_21_code
abbrev y_L_gap : MethodName := ⟨"LathePiecesLaw", "gap", "(LLathePieces;II[J)I"⟩
abbrev b_L_hollow : ByteArray := method_16_code
abbrev y_L_hollow : MethodName := ⟨"LathePiecesLaw", "hollow", "(LLathePieces;III[J)I"⟩
abbrev b_L_law : ByteArray := code
abbrev y_L_law : MethodName := ⟨"LathePiecesLaw", "law", "([I)Z"⟩
abbrev b_L_left : ByteArray := method_11_code
abbrev y_L_left : MethodName := ⟨"LathePiecesLaw", "left", "(LLathePieces;II[J)I"⟩
abbrev b_L_line : ByteArray := method_4_code
abbrev y_L_line : MethodName := ⟨"LathePiecesLaw", "line", "(LLathePieces;II[J)I"⟩
abbrev b_L_mitre : ByteArray := method_20_code
abbrev y_L_mitre : MethodName := ⟨"LathePiecesLaw", "mitre", "(LLathePieces;III[J)I"⟩
abbrev b_L_passes : ByteArray := method_12_code
abbrev y_L_passes : MethodName := ⟨"LathePiecesLaw", "passes", "(LLathePieces;IIII[J)I"⟩
abbrev b_L_radius : ByteArray := method_7_code
abbrev y_L_radius : MethodName := ⟨"LathePiecesLaw", "radius", "(LLathePieces;II[J)I"⟩
abbrev b_L_reached : ByteArray := method_10_code
abbrev y_L_reached : MethodName := ⟨"LathePiecesLaw", "reached", "(LLathePieces;III[J)I"⟩
abbrev b_L_ring : ByteArray := method_18_code
abbrev y_L_ring : MethodName := ⟨"LathePiecesLaw", "ring", "(LLathePieces;[J)I"⟩
abbrev b_L_row : ByteArray := method_26_code
abbrev y_L_row : MethodName := ⟨"LathePiecesLaw", "row", "(LLathePieces;II[J)I"⟩
abbrev b_L_speed : ByteArray := method_27_code
abbrev y_L_speed : MethodName := ⟨"LathePiecesLaw", "speed", "(LLathePieces;II[J)I"⟩
abbrev b_L_start : ByteArray := method_3_code
abbrev y_L_start : MethodName := ⟨"LathePiecesLaw", "start", "(LLathePieces;I)I"⟩
abbrev b_L_steady : ByteArray := method_14_code
abbrev y_L_steady : MethodName := ⟨"LathePiecesLaw", "steady", "(LLathePieces;III[J)I"⟩
abbrev b_L_thread : ByteArray := method_24_code
abbrev y_L_thread : MethodName := ⟨"LathePiecesLaw", "thread", "(LLathePieces;II)I"⟩
abbrev b_L_threadAt : ByteArray := method_25_code
abbrev y_L_threadAt : MethodName := ⟨"LathePiecesLaw", "threadAt", "(LLathePieces;II[J)I"⟩
abbrev b_L_tool : ByteArray := method_9_code
abbrev y_L_tool : MethodName := ⟨"LathePiecesLaw", "tool", "(LLathePieces;I[J)I"⟩
abbrev b_L_turn : ByteArray := method_6_code
abbrev y_L_turn : MethodName := ⟨"LathePiecesLaw", "turn", "(LLathePieces;[J)I"⟩
abbrev b_L_volume : ByteArray := method_15_code
abbrev y_L_volume : MethodName := ⟨"LathePiecesLaw", "volume", "(LLathePieces;IZ[J)I"⟩
abbrev b_L_wedge : ByteArray := method_19_code
abbrev y_L_wedge : MethodName := ⟨"LathePiecesLaw", "wedge", "(LLathePieces;III[J)I"⟩
abbrev b_M_about : ByteArray := prog_8_method_19_code
abbrev y_M_about : MethodName := ⟨"LathePiecesModel", "about", "(II)I"⟩
abbrev b_M_add : ByteArray := prog_8_method_9_code
abbrev y_M_add : MethodName := ⟨"LathePiecesModel", "add", "(IIIII)V"⟩
abbrev b_M_arc : ByteArray := prog_8_method_12_code
abbrev y_M_arc : MethodName := ⟨"LathePiecesModel", "arc", "(IIIIZ)Z"⟩
abbrev b_M_blank : ByteArray := prog_8_method_18_code
abbrev y_M_blank : MethodName := ⟨"LathePiecesModel", "blank", "(I)I"⟩
abbrev b_M_closes : ByteArray := prog_8_method_39_code
abbrev y_M_closes : MethodName := ⟨"LathePiecesModel", "closes", "(I)Z"⟩
abbrev b_M_copy : ByteArray := prog_8_method_32_code
abbrev y_M_copy : MethodName := ⟨"LathePiecesModel", "copy", "(II)I"⟩
abbrev b_M_cut : ByteArray := prog_8_method_27_code
abbrev y_M_cut : MethodName := ⟨"LathePiecesModel", "cut", "(IIIII)I"⟩
abbrev b_M_flute : ByteArray := prog_8_method_40_code
abbrev y_M_flute : MethodName := ⟨"LathePiecesModel", "flute", "(III)J"⟩
abbrev b_M_gap : ByteArray := prog_8_method_38_code
abbrev y_M_gap : MethodName := ⟨"LathePiecesModel", "gap", "(II)J"⟩
abbrev b_M_gapOf : ByteArray := prog_8_method_37_code
abbrev y_M_gapOf : MethodName := ⟨"LathePiecesModel", "gapOf", "(I)J"⟩
abbrev b_M_hasPlace : ByteArray := prog_8_method_16_code
abbrev y_M_hasPlace : MethodName := ⟨"LathePiecesModel", "hasPlace", "(II)Z"⟩
abbrev b_M_hollow : ByteArray := prog_8_method_31_code
abbrev y_M_hollow : MethodName := ⟨"LathePiecesModel", "hollow", "(III)I"⟩
abbrev b_M_in : ByteArray := prog_8_method_3_code
abbrev y_M_in : MethodName := ⟨"LathePiecesModel", "in", "(JJJ)Z"⟩
abbrev b_M_init : ByteArray := prog_8_method_1_code
abbrev y_M_init : MethodName := ⟨"LathePiecesModel", "<init>", "()V"⟩
abbrev b_M_isPiece : ByteArray := prog_8_method_15_code
abbrev y_M_isPiece : MethodName := ⟨"LathePiecesModel", "isPiece", "(I)Z"⟩
abbrev b_M_lastAt : ByteArray := prog_8_method_6_code
abbrev y_M_lastAt : MethodName := ⟨"LathePiecesModel", "lastAt", "()I"⟩
abbrev b_M_lastRadius : ByteArray := prog_8_method_7_code
abbrev y_M_lastRadius : MethodName := ⟨"LathePiecesModel", "lastRadius", "()I"⟩
abbrev b_M_left : ByteArray := prog_8_method_23_code
abbrev y_M_left : MethodName := ⟨"LathePiecesModel", "left", "(II)I"⟩
abbrev b_M_line : ByteArray := prog_8_method_10_code
abbrev y_M_line : MethodName := ⟨"LathePiecesModel", "line", "(II)I"⟩
abbrev b_M_look : ByteArray := prog_8_method_8_code
abbrev y_M_look : MethodName := ⟨"LathePiecesModel", "look", "(II)V"⟩
abbrev b_M_lookRough : ByteArray := prog_8_method_25_code
abbrev y_M_lookRough : MethodName := ⟨"LathePiecesModel", "lookRough", "(IIII)V"⟩
abbrev b_M_mitre : ByteArray := prog_8_method_36_code
abbrev y_M_mitre : MethodName := ⟨"LathePiecesModel", "mitre", "(III)J"⟩
abbrev b_M_nextHeld : ByteArray := prog_8_method_28_code
abbrev y_M_nextHeld : MethodName := ⟨"LathePiecesModel", "nextHeld", "(III)I"⟩
abbrev b_M_onWay : ByteArray := prog_8_method_13_code
abbrev y_M_onWay : MethodName := ⟨"LathePiecesModel", "onWay", "(IIII)I"⟩
abbrev b_M_partOf : ByteArray := prog_8_method_35_code
abbrev y_M_partOf : MethodName := ⟨"LathePiecesModel", "partOf", "(JJI)J"⟩
abbrev b_M_passes : ByteArray := prog_8_method_26_code
abbrev y_M_passes : MethodName := ⟨"LathePiecesModel", "passes", "(IIII)I"⟩
abbrev b_M_radius : ByteArray := prog_8_method_17_code
abbrev y_M_radius : MethodName := ⟨"LathePiecesModel", "radius", "(II)I"⟩
abbrev b_M_reachAll : ByteArray := prog_8_method_21_code
abbrev y_M_reachAll : MethodName := ⟨"LathePiecesModel", "reachAll", "(II)V"⟩
abbrev b_M_reached : ByteArray := prog_8_method_22_code
abbrev y_M_reached : MethodName := ⟨"LathePiecesModel", "reached", "(III)I"⟩
abbrev b_M_ring : ByteArray := prog_8_method_33_code
abbrev y_M_ring : MethodName := ⟨"LathePiecesModel", "ring", "()I"⟩
abbrev b_M_root : ByteArray := prog_8_method_4_code
abbrev y_M_root : MethodName := ⟨"LathePiecesModel", "root", "(I)I"⟩
abbrev b_M_row : ByteArray := prog_8_method_43_code
abbrev y_M_row : MethodName := ⟨"LathePiecesModel", "row", "(II)I"⟩
abbrev b_M_speed : ByteArray := prog_8_method_44_code
abbrev y_M_speed : MethodName := ⟨"LathePiecesModel", "speed", "(II)I"⟩
abbrev b_M_square : ByteArray := prog_8_method_11_code
abbrev y_M_square : MethodName := ⟨"LathePiecesModel", "square", "(IIII)I"⟩
abbrev b_M_start : ByteArray := prog_8_method_5_code
abbrev y_M_start : MethodName := ⟨"LathePiecesModel", "start", "(I)V"⟩
abbrev b_M_steady : ByteArray := prog_8_method_29_code
abbrev y_M_steady : MethodName := ⟨"LathePiecesModel", "steady", "(III)I"⟩
abbrev b_M_thread : ByteArray := prog_8_method_41_code
abbrev y_M_thread : MethodName := ⟨"LathePiecesModel", "thread", "(II)V"⟩
abbrev b_M_threadAt : ByteArray := prog_8_method_42_code
abbrev y_M_threadAt : MethodName := ⟨"LathePiecesModel", "threadAt", "(II)J"⟩
abbrev b_M_thrown : ByteArray := prog_8_method_2_code
abbrev y_M_thrown : MethodName := ⟨"LathePiecesModel", "thrown", "()I"⟩
abbrev b_M_tool : ByteArray := prog_8_method_20_code
abbrev y_M_tool : MethodName := ⟨"LathePiecesModel", "tool", "(I)I"⟩
abbrev b_M_turn : ByteArray := prog_8_method_14_code
abbrev y_M_turn : MethodName := ⟨"LathePiecesModel", "turn", "()I"⟩
abbrev b_M_volume : ByteArray := prog_8_method_30_code
abbrev y_M_volume : MethodName := ⟨"LathePiecesModel", "volume", "(IZ)J"⟩
abbrev b_M_wantedBelow : ByteArray := prog_8_method_24_code
abbrev y_M_wantedBelow : MethodName := ⟨"LathePiecesModel", "wantedBelow", "(IIJ)I"⟩
abbrev b_M_wedge : ByteArray := prog_8_method_34_code
abbrev y_M_wedge : MethodName := ⟨"LathePiecesModel", "wedge", "(III)I"⟩
abbrev b_N_init : ByteArray := prog_2_method_1_code
abbrev y_N_init : MethodName := ⟨"LathePieces$Nose", "<init>", "(I)V"⟩
abbrev b_P_greatestDifference : ByteArray := prog_3_method_5_code
abbrev y_P_greatestDifference : MethodName := ⟨"LathePieces$Piece", "greatestDifference", "(LLathePieces$Piece;)I"⟩
abbrev b_P_heldBehind : ByteArray := prog_3_method_2_code
abbrev y_P_heldBehind : MethodName := ⟨"LathePieces$Piece", "heldBehind", "(II)I"⟩
abbrev b_P_init : ByteArray := prog_3_method_1_code
abbrev y_P_init : MethodName := ⟨"LathePieces$Piece", "<init>", "(LLathePieces$Profile;)V"⟩
abbrev b_P_lastPlacesFrom : ByteArray := prog_3_method_4_code
abbrev y_P_lastPlacesFrom : MethodName := ⟨"LathePieces$Piece", "lastPlacesFrom", "(I)I"⟩
abbrev b_P_sumOfSquares : ByteArray := prog_3_method_3_code
abbrev y_P_sumOfSquares : MethodName := ⟨"LathePieces$Piece", "sumOfSquares", "(Z)J"⟩
abbrev b_R_init : ByteArray := prog_5_method_1_code
abbrev y_R_init : MethodName := ⟨"LathePieces$Reach", "<init>", "([I[I)V"⟩
abbrev b_R_liftAt : ByteArray := prog_5_method_2_code
abbrev y_R_liftAt : MethodName := ⟨"LathePieces$Reach", "liftAt", "([I[II)I"⟩
abbrev b_R_lowAt : ByteArray := prog_5_method_3_code
abbrev y_R_lowAt : MethodName := ⟨"LathePieces$Reach", "lowAt", "([I[II)I"⟩
abbrev b_R_passCount : ByteArray := prog_5_method_6_code
abbrev y_R_passCount : MethodName := ⟨"LathePieces$Reach", "passCount", "(III)I"⟩
abbrev b_R_placesAbove : ByteArray := prog_5_method_4_code
abbrev y_R_placesAbove : MethodName := ⟨"LathePieces$Reach", "placesAbove", "([I)I"⟩
abbrev b_R_placesCut : ByteArray := prog_5_method_5_code
abbrev y_R_placesCut : MethodName := ⟨"LathePieces$Reach", "placesCut", "(IIJ)I"⟩
abbrev b_R_wantedAt : ByteArray := prog_5_method_7_code
abbrev y_R_wantedAt : MethodName := ⟨"LathePieces$Reach", "wantedAt", "(III)I"⟩
theorem g_0 : (Cond.initialized "LathePiecesLaw") ∈ GW := gw_1 (List.mem_of_getElem? (i := 0) rfl) rfl
theorem g_1 : (Cond.initialized "LathePieces") ∈ GW := gw_1 (List.mem_of_getElem? (i := 1) rfl) rfl
theorem g_2 : (Cond.initialized "LathePieces$Profile") ∈ GW := gw_1 (List.mem_of_getElem? (i := 2) rfl) rfl
theorem g_3 : (Cond.initialized "LathePiecesModel") ∈ GW := gw_1 (List.mem_of_getElem? (i := 3) rfl) rfl
theorem g_4 : (Cond.initialized "java/lang/Throwable") ∈ GW := gw_1 (List.mem_of_getElem? (i := 4) rfl) rfl
theorem g_5 : (Cond.initialized "java/lang/Exception") ∈ GW := gw_1 (List.mem_of_getElem? (i := 5) rfl) rfl
theorem g_6 : (Cond.initialized "java/lang/RuntimeException") ∈ GW := gw_1 (List.mem_of_getElem? (i := 6) rfl) rfl
theorem g_7 : (Cond.initialized "java/lang/IllegalArgumentException") ∈ GW := gw_1 (List.mem_of_getElem? (i := 7) rfl) rfl
theorem g_8 : (Cond.initialized "java/lang/IllegalStateException") ∈ GW := gw_1 (List.mem_of_getElem? (i := 8) rfl) rfl
theorem g_9 : (Cond.initialized "java/lang/Math") ∈ GW := gw_1 (List.mem_of_getElem? (i := 9) rfl) rfl
theorem g_10 : (Cond.initialized "LathePieces$Piece") ∈ GW := gw_1 (List.mem_of_getElem? (i := 10) rfl) rfl
theorem g_11 : (Cond.initialized "java/util/Arrays") ∈ GW := gw_1 (List.mem_of_getElem? (i := 11) rfl) rfl
theorem g_12 : (Cond.initialized "java/lang/System") ∈ GW := gw_1 (List.mem_of_getElem? (i := 12) rfl) rfl
theorem g_13 : (Cond.initialized "java/lang/IndexOutOfBoundsException") ∈ GW := gw_1 (List.mem_of_getElem? (i := 13) rfl) rfl
theorem g_14 : (Cond.initialized "LathePieces$Nose") ∈ GW := gw_1 (List.mem_of_getElem? (i := 14) rfl) rfl
theorem g_15 : (Cond.initialized "LathePieces$Reach") ∈ GW := gw_1 (List.mem_of_getElem? (i := 15) rfl) rfl
theorem g_16 : (Cond.initialized "LathePieces$Ring") ∈ GW := gw_1 (List.mem_of_getElem? (i := 16) rfl) rfl
theorem g_17 : (Cond.classLink "LathePiecesLaw" 8 "LathePieces") ∈ GW := gw_1 (List.mem_of_getElem? (i := 17) rfl) rfl
theorem g_18 : (Cond.instantiable "LathePieces" 13) ∈ GW := gw_1 (List.mem_of_getElem? (i := 18) rfl) rfl
theorem g_19 : (Cond.methodLink "LathePiecesLaw" 103 ⟨"LathePieces", "<init>", "()V"⟩) ∈ GW := gw_1 (List.mem_of_getElem? (i := 19) rfl) rfl
theorem g_20 : (Cond.instanceMethod ⟨"LathePieces", "<init>", "()V"⟩) ∈ GW := gw_1 (List.mem_of_getElem? (i := 20) rfl) rfl
theorem g_21 : (Cond.code ⟨"LathePieces", "<init>", "()V"⟩ prog_1_method_1_code 1 (Option.none : Option FieldType)) ∈ GW := gw_1 (List.mem_of_getElem? (i := 21) rfl) rfl
theorem g_22 : (Cond.methodLink "LathePieces" 1 ⟨"java/lang/Object", "<init>", "()V"⟩) ∈ GW := gw_1 (List.mem_of_getElem? (i := 22) rfl) rfl
theorem g_23 : (Cond.instanceMethod ⟨"java/lang/Object", "<init>", "()V"⟩) ∈ GW := gw_1 (List.mem_of_getElem? (i := 23) rfl) rfl
theorem g_24 : (Cond.code ⟨"java/lang/Object", "<init>", "()V"⟩ object_method_1_code 1 (Option.none : Option FieldType)) ∈ GW := gw_1 (List.mem_of_getElem? (i := 24) rfl) rfl
theorem g_25 : (Cond.classLink "LathePieces" 7 "LathePieces$Profile") ∈ GW := gw_1 (List.mem_of_getElem? (i := 25) rfl) rfl
theorem g_26 : (Cond.instantiable "LathePieces$Profile" 5) ∈ GW := gw_1 (List.mem_of_getElem? (i := 26) rfl) rfl
theorem g_27 : (Cond.methodLinkNest "LathePieces" 9 ⟨"LathePieces$Profile", "<init>", "()V"⟩ "LathePieces") ∈ lw_tbl := tb_1 (List.mem_of_getElem? (i := 27) rfl)
theorem g_28 : (Cond.instanceMethod ⟨"LathePieces$Profile", "<init>", "()V"⟩) ∈ GW := gw_1 (List.mem_of_getElem? (i := 28) rfl) rfl
theorem g_29 : (Cond.code ⟨"LathePieces$Profile", "<init>", "()V"⟩ prog_4_method_1_code 1 (Option.none : Option FieldType)) ∈ GW := gw_1 (List.mem_of_getElem? (i := 29) rfl) rfl
theorem g_30 : (Cond.methodLink "LathePieces$Profile" 3 ⟨"java/lang/Object", "<init>", "()V"⟩) ∈ GW := gw_1 (List.mem_of_getElem? (i := 30) rfl) rfl
theorem g_31 : (Cond.fieldLink "LathePieces$Piece" 9 "LathePieces$Profile" "radii" "[I") ∈ GW := gw_1 (List.mem_of_getElem? (i := 31) rfl) rfl
theorem g_32 : (Cond.fieldLink "LathePieces$Profile" 9 "LathePieces$Profile" "radii" "[I") ∈ GW := gw_1 (List.mem_of_getElem? (i := 32) rfl) rfl
theorem g_33 : (Cond.fieldLink "LathePieces$Profile" 15 "LathePieces$Profile" "begun" "Z") ∈ GW := gw_1 (List.mem_of_getElem? (i := 33) rfl) rfl
theorem g_34 : (Cond.fieldLink "LathePieces" 255 "LathePieces$Profile" "begun" "Z") ∈ GW := gw_1 (List.mem_of_getElem? (i := 34) rfl) rfl
theorem g_35 : (Cond.fieldLink "LathePieces$Piece" 15 "LathePieces$Profile" "last" "I") ∈ GW := gw_1 (List.mem_of_getElem? (i := 35) rfl) rfl
theorem g_36 : (Cond.fieldLink "LathePieces$Profile" 19 "LathePieces$Profile" "last" "I") ∈ GW := gw_1 (List.mem_of_getElem? (i := 36) rfl) rfl
theorem g_37 : (Cond.fieldLink "LathePieces" 261 "LathePieces$Profile" "last" "I") ∈ GW := gw_1 (List.mem_of_getElem? (i := 37) rfl) rfl
theorem g_38 : (Cond.fieldLink "LathePieces$Profile" 23 "LathePieces$Profile" "lastRadius" "I") ∈ GW := gw_1 (List.mem_of_getElem? (i := 38) rfl) rfl
theorem g_39 : (Cond.fieldLink "LathePieces$Piece" 31 "LathePieces$Profile" "ways" "I") ∈ GW := gw_1 (List.mem_of_getElem? (i := 39) rfl) rfl
theorem g_40 : (Cond.fieldLink "LathePieces$Profile" 26 "LathePieces$Profile" "ways" "I") ∈ GW := gw_1 (List.mem_of_getElem? (i := 40) rfl) rfl
theorem g_41 : (Cond.fieldLink "LathePieces" 65 "LathePieces$Profile" "ways" "I") ∈ GW := gw_1 (List.mem_of_getElem? (i := 41) rfl) rfl
theorem g_42 : (Cond.laysFinal "LathePieces$Profile" "LathePieces$Profile" "radii" "[I") ∈ GW := gw_1 (List.mem_of_getElem? (i := 42) rfl) rfl
theorem g_43 : (Cond.soleField "LathePieces$Profile" "radii") ∈ GW := gw_1 (List.mem_of_getElem? (i := 43) rfl) rfl
theorem g_44 : (Cond.lays "LathePieces$Profile" "LathePieces$Profile" "begun" "Z") ∈ GW := gw_1 (List.mem_of_getElem? (i := 44) rfl) rfl
theorem g_45 : (Cond.soleField "LathePieces$Profile" "begun") ∈ GW := gw_1 (List.mem_of_getElem? (i := 45) rfl) rfl
theorem g_46 : (Cond.lays "LathePieces$Profile" "LathePieces$Profile" "last" "I") ∈ GW := gw_1 (List.mem_of_getElem? (i := 46) rfl) rfl
theorem g_47 : (Cond.soleField "LathePieces$Profile" "last") ∈ GW := gw_1 (List.mem_of_getElem? (i := 47) rfl) rfl
theorem g_48 : (Cond.lays "LathePieces$Profile" "LathePieces$Profile" "lastRadius" "I") ∈ GW := gw_1 (List.mem_of_getElem? (i := 48) rfl) rfl
theorem g_49 : (Cond.soleField "LathePieces$Profile" "lastRadius") ∈ GW := gw_1 (List.mem_of_getElem? (i := 49) rfl) rfl
theorem g_50 : (Cond.lays "LathePieces$Profile" "LathePieces$Profile" "ways" "I") ∈ GW := gw_1 (List.mem_of_getElem? (i := 50) rfl) rfl
theorem g_51 : (Cond.soleField "LathePieces$Profile" "ways") ∈ GW := gw_1 (List.mem_of_getElem? (i := 51) rfl) rfl
theorem g_52 : (Cond.superclass "LathePieces$Profile" "java/lang/Object") ∈ GW := gw_1 (List.mem_of_getElem? (i := 52) rfl) rfl
theorem g_53 : (Cond.arrayClass FieldType.int) ∈ GW := gw_1 (List.mem_of_getElem? (i := 53) rfl) rfl
theorem g_54 : (Cond.classLink "LathePieces" 16 "LathePieces$Piece") ∈ GW := gw_1 (List.mem_of_getElem? (i := 54) rfl) rfl
theorem g_55 : (Cond.arrayOver (FieldType.object "LathePieces$Piece")) ∈ lw_tbl := tb_1 (List.mem_of_getElem? (i := 55) rfl)
theorem g_56 : (Cond.classLink "LathePieces" 22 "LathePieces$Nose") ∈ GW := gw_1 (List.mem_of_getElem? (i := 56) rfl) rfl
theorem g_57 : (Cond.arrayOver (FieldType.object "LathePieces$Nose")) ∈ lw_tbl := tb_1 (List.mem_of_getElem? (i := 57) rfl)
theorem g_58 : (Cond.classLink "LathePieces" 28 "LathePieces$Reach") ∈ GW := gw_1 (List.mem_of_getElem? (i := 58) rfl) rfl
theorem g_59 : (Cond.arrayOver (FieldType.object "LathePieces$Reach")) ∈ lw_tbl := tb_1 (List.mem_of_getElem? (i := 59) rfl)
theorem g_60 : (Cond.classLink "LathePieces" 34 "LathePieces$Ring") ∈ GW := gw_1 (List.mem_of_getElem? (i := 60) rfl) rfl
theorem g_61 : (Cond.arrayOver (FieldType.object "LathePieces$Ring")) ∈ lw_tbl := tb_1 (List.mem_of_getElem? (i := 61) rfl)
theorem g_62 : (Cond.fieldLink "LathePieces" 10 "LathePieces" "profile" "LLathePieces$Profile;") ∈ GW := gw_1 (List.mem_of_getElem? (i := 62) rfl) rfl
theorem g_63 : (Cond.fieldLink "LathePieces" 18 "LathePieces" "pieces" "[LLathePieces$Piece;") ∈ GW := gw_1 (List.mem_of_getElem? (i := 63) rfl) rfl
theorem g_64 : (Cond.fieldLink "LathePieces" 77 "LathePieces" "pieceCount" "I") ∈ GW := gw_1 (List.mem_of_getElem? (i := 64) rfl) rfl
theorem g_65 : (Cond.fieldLink "LathePieces" 24 "LathePieces" "noses" "[LLathePieces$Nose;") ∈ GW := gw_1 (List.mem_of_getElem? (i := 65) rfl) rfl
theorem g_66 : (Cond.fieldLink "LathePieces" 110 "LathePieces" "noseCount" "I") ∈ GW := gw_1 (List.mem_of_getElem? (i := 66) rfl) rfl
theorem g_67 : (Cond.fieldLink "LathePieces" 30 "LathePieces" "reaches" "[LLathePieces$Reach;") ∈ GW := gw_1 (List.mem_of_getElem? (i := 67) rfl) rfl
theorem g_68 : (Cond.fieldLink "LathePieces" 36 "LathePieces" "rings" "[LLathePieces$Ring;") ∈ GW := gw_1 (List.mem_of_getElem? (i := 68) rfl) rfl
theorem g_69 : (Cond.fieldLink "LathePieces" 175 "LathePieces" "ringCount" "I") ∈ GW := gw_1 (List.mem_of_getElem? (i := 69) rfl) rfl
theorem g_70 : (Cond.fieldLink "LathePieces" 40 "LathePieces" "rowRadii" "[I") ∈ GW := gw_1 (List.mem_of_getElem? (i := 70) rfl) rfl
theorem g_71 : (Cond.fieldLink "LathePieces" 44 "LathePieces" "rowTurns" "[I") ∈ GW := gw_1 (List.mem_of_getElem? (i := 71) rfl) rfl
theorem g_72 : (Cond.fieldLink "LathePieces" 227 "LathePieces" "rowCount" "I") ∈ GW := gw_1 (List.mem_of_getElem? (i := 72) rfl) rfl
theorem g_73 : (Cond.fieldLink "LathePieces" 218 "LathePieces" "pitchAbove" "I") ∈ GW := gw_1 (List.mem_of_getElem? (i := 73) rfl) rfl
theorem g_74 : (Cond.fieldLink "LathePieces" 221 "LathePieces" "pitchBelow" "I") ∈ GW := gw_1 (List.mem_of_getElem? (i := 74) rfl) rfl
theorem g_75 : (Cond.laysFinal "LathePieces" "LathePieces" "profile" "LLathePieces$Profile;") ∈ GW := gw_1 (List.mem_of_getElem? (i := 75) rfl) rfl
theorem g_76 : (Cond.soleField "LathePieces" "profile") ∈ GW := gw_1 (List.mem_of_getElem? (i := 76) rfl) rfl
theorem g_77 : (Cond.laysFinal "LathePieces" "LathePieces" "pieces" "[LLathePieces$Piece;") ∈ GW := gw_1 (List.mem_of_getElem? (i := 77) rfl) rfl
theorem g_78 : (Cond.soleField "LathePieces" "pieces") ∈ GW := gw_1 (List.mem_of_getElem? (i := 78) rfl) rfl
theorem g_79 : (Cond.lays "LathePieces" "LathePieces" "pieceCount" "I") ∈ GW := gw_1 (List.mem_of_getElem? (i := 79) rfl) rfl
theorem g_80 : (Cond.soleField "LathePieces" "pieceCount") ∈ GW := gw_1 (List.mem_of_getElem? (i := 80) rfl) rfl
theorem g_81 : (Cond.laysFinal "LathePieces" "LathePieces" "noses" "[LLathePieces$Nose;") ∈ GW := gw_1 (List.mem_of_getElem? (i := 81) rfl) rfl
theorem g_82 : (Cond.soleField "LathePieces" "noses") ∈ GW := gw_1 (List.mem_of_getElem? (i := 82) rfl) rfl
theorem g_83 : (Cond.lays "LathePieces" "LathePieces" "noseCount" "I") ∈ GW := gw_1 (List.mem_of_getElem? (i := 83) rfl) rfl
theorem g_84 : (Cond.soleField "LathePieces" "noseCount") ∈ GW := gw_1 (List.mem_of_getElem? (i := 84) rfl) rfl
theorem g_85 : (Cond.laysFinal "LathePieces" "LathePieces" "reaches" "[LLathePieces$Reach;") ∈ GW := gw_1 (List.mem_of_getElem? (i := 85) rfl) rfl
theorem g_86 : (Cond.soleField "LathePieces" "reaches") ∈ GW := gw_1 (List.mem_of_getElem? (i := 86) rfl) rfl
theorem g_87 : (Cond.laysFinal "LathePieces" "LathePieces" "rings" "[LLathePieces$Ring;") ∈ GW := gw_1 (List.mem_of_getElem? (i := 87) rfl) rfl
theorem g_88 : (Cond.soleField "LathePieces" "rings") ∈ GW := gw_1 (List.mem_of_getElem? (i := 88) rfl) rfl
theorem g_89 : (Cond.lays "LathePieces" "LathePieces" "ringCount" "I") ∈ GW := gw_1 (List.mem_of_getElem? (i := 89) rfl) rfl
theorem g_90 : (Cond.soleField "LathePieces" "ringCount") ∈ GW := gw_1 (List.mem_of_getElem? (i := 90) rfl) rfl
theorem g_91 : (Cond.laysFinal "LathePieces" "LathePieces" "rowRadii" "[I") ∈ GW := gw_1 (List.mem_of_getElem? (i := 91) rfl) rfl
theorem g_92 : (Cond.soleField "LathePieces" "rowRadii") ∈ GW := gw_1 (List.mem_of_getElem? (i := 92) rfl) rfl
theorem g_93 : (Cond.laysFinal "LathePieces" "LathePieces" "rowTurns" "[I") ∈ GW := gw_1 (List.mem_of_getElem? (i := 93) rfl) rfl
theorem g_94 : (Cond.soleField "LathePieces" "rowTurns") ∈ GW := gw_1 (List.mem_of_getElem? (i := 94) rfl) rfl
theorem g_95 : (Cond.lays "LathePieces" "LathePieces" "rowCount" "I") ∈ GW := gw_1 (List.mem_of_getElem? (i := 95) rfl) rfl
theorem g_96 : (Cond.soleField "LathePieces" "rowCount") ∈ GW := gw_1 (List.mem_of_getElem? (i := 96) rfl) rfl
theorem g_97 : (Cond.lays "LathePieces" "LathePieces" "pitchAbove" "I") ∈ GW := gw_1 (List.mem_of_getElem? (i := 97) rfl) rfl
theorem g_98 : (Cond.soleField "LathePieces" "pitchAbove") ∈ GW := gw_1 (List.mem_of_getElem? (i := 98) rfl) rfl
theorem g_99 : (Cond.lays "LathePieces" "LathePieces" "pitchBelow" "I") ∈ GW := gw_1 (List.mem_of_getElem? (i := 99) rfl) rfl
theorem g_100 : (Cond.soleField "LathePieces" "pitchBelow") ∈ GW := gw_1 (List.mem_of_getElem? (i := 100) rfl) rfl
theorem g_101 : (Cond.superclass "LathePieces" "java/lang/Object") ∈ GW := gw_1 (List.mem_of_getElem? (i := 101) rfl) rfl
theorem g_102 : (Cond.methodLink "LathePiecesLaw" 107 ⟨"LathePiecesLaw", "start", "(LLathePieces;I)I"⟩) ∈ GW := gw_1 (List.mem_of_getElem? (i := 102) rfl) rfl
theorem g_103 : (Cond.static ⟨"LathePiecesLaw", "start", "(LLathePieces;I)I"⟩) ∈ GW := gw_1 (List.mem_of_getElem? (i := 103) rfl) rfl
theorem g_104 : (Cond.codeWith ⟨"LathePiecesLaw", "start", "(LLathePieces;I)I"⟩ method_3_code 3 (Option.some FieldType.int) [(0, 5, 8, 13)]) ∈ GW := gw_1 (List.mem_of_getElem? (i := 104) rfl) rfl
theorem g_105 : (Cond.classLink "LathePiecesLaw" 13 "java/lang/IllegalArgumentException") ∈ GW := gw_1 (List.mem_of_getElem? (i := 105) rfl) rfl
theorem g_106 : (Cond.methodLink "LathePiecesLaw" 7 ⟨"LathePieces", "start", "(I)V"⟩) ∈ GW := gw_1 (List.mem_of_getElem? (i := 106) rfl) rfl
theorem g_107 : (Cond.instanceMethod ⟨"LathePieces", "start", "(I)V"⟩) ∈ GW := gw_1 (List.mem_of_getElem? (i := 107) rfl) rfl
theorem g_108 : (Cond.selects "LathePieces" ⟨"LathePieces", "start", "(I)V"⟩ ⟨"LathePieces", "start", "(I)V"⟩) ∈ GW := gw_1 (List.mem_of_getElem? (i := 108) rfl) rfl
theorem g_109 : (Cond.code ⟨"LathePieces", "start", "(I)V"⟩ prog_1_method_2_code 2 (Option.none : Option FieldType)) ∈ GW := gw_1 (List.mem_of_getElem? (i := 109) rfl) rfl
theorem g_110 : (Cond.methodLink "LathePieces" 47 ⟨"LathePieces", "checkNumber", "(III)V"⟩) ∈ GW := gw_1 (List.mem_of_getElem? (i := 110) rfl) rfl
theorem g_111 : (Cond.static ⟨"LathePieces", "checkNumber", "(III)V"⟩) ∈ GW := gw_1 (List.mem_of_getElem? (i := 111) rfl) rfl
theorem g_112 : (Cond.code ⟨"LathePieces", "checkNumber", "(III)V"⟩ prog_1_method_35_code 3 (Option.none : Option FieldType)) ∈ GW := gw_1 (List.mem_of_getElem? (i := 112) rfl) rfl
theorem g_113 : (Cond.classLink "LathePieces" 230 "java/lang/IllegalArgumentException") ∈ GW := gw_1 (List.mem_of_getElem? (i := 113) rfl) rfl
theorem g_114 : (Cond.instantiable "java/lang/IllegalArgumentException" 6) ∈ GW := gw_1 (List.mem_of_getElem? (i := 114) rfl) rfl
theorem g_115 : (Cond.castable "java/lang/IllegalArgumentException" "java/lang/IllegalArgumentException") ∈ lw_tbl := tb_1 (List.mem_of_getElem? (i := 115) rfl)
theorem g_116 : (Cond.declares ⟨"java/lang/RuntimeException", "<init>", "()V"⟩) ∈ lw_tbl := tb_1 (List.mem_of_getElem? (i := 116) rfl)
theorem g_117 : (Cond.declares ⟨"java/lang/RuntimeException", "<init>", "(Ljava/lang/String;)V"⟩) ∈ lw_tbl := tb_1 (List.mem_of_getElem? (i := 117) rfl)
theorem g_118 : (Cond.declares ⟨"java/lang/Exception", "<init>", "()V"⟩) ∈ lw_tbl := tb_1 (List.mem_of_getElem? (i := 118) rfl)
theorem g_119 : (Cond.declares ⟨"java/lang/Exception", "<init>", "(Ljava/lang/String;)V"⟩) ∈ lw_tbl := tb_1 (List.mem_of_getElem? (i := 119) rfl)
theorem g_120 : (Cond.declares ⟨"java/lang/Throwable", "<init>", "()V"⟩) ∈ lw_tbl := tb_1 (List.mem_of_getElem? (i := 120) rfl)
theorem g_121 : (Cond.declares ⟨"java/lang/Throwable", "<init>", "(Ljava/lang/String;)V"⟩) ∈ lw_tbl := tb_1 (List.mem_of_getElem? (i := 121) rfl)
theorem g_122 : (Cond.selects "java/lang/IllegalArgumentException" ⟨"java/lang/Throwable", "fillInStackTrace", "(I)Ljava/lang/Throwable;"⟩ ⟨"java/lang/Throwable", "fillInStackTrace", "(I)Ljava/lang/Throwable;"⟩) ∈ GW := gw_1 (List.mem_of_getElem? (i := 122) rfl) rfl
theorem g_123 : (Cond.selects "java/lang/IllegalArgumentException" ⟨"java/lang/Throwable", "fillInStackTrace", "()Ljava/lang/Throwable;"⟩ ⟨"java/lang/Throwable", "fillInStackTrace", "()Ljava/lang/Throwable;"⟩) ∈ GW := gw_1 (List.mem_of_getElem? (i := 123) rfl) rfl
theorem g_124 : (Cond.lays "java/lang/IllegalArgumentException" "java/lang/Throwable" "cause" "Ljava/lang/Throwable;") ∈ GW := gw_1 (List.mem_of_getElem? (i := 124) rfl) rfl
theorem g_125 : (Cond.lays "java/lang/Throwable" "java/lang/Throwable" "cause" "Ljava/lang/Throwable;") ∈ GW := gw_1 (List.mem_of_getElem? (i := 125) rfl) rfl
theorem g_126 : (Cond.lays "java/lang/IllegalArgumentException" "java/lang/Throwable" "stackTrace" "[Ljava/lang/StackTraceElement;") ∈ GW := gw_1 (List.mem_of_getElem? (i := 126) rfl) rfl
theorem g_127 : (Cond.lays "java/lang/Throwable" "java/lang/Throwable" "stackTrace" "[Ljava/lang/StackTraceElement;") ∈ GW := gw_1 (List.mem_of_getElem? (i := 127) rfl) rfl
theorem g_128 : (Cond.lays "java/lang/IllegalArgumentException" "java/lang/Throwable" "suppressedExceptions" "Ljava/util/List;") ∈ GW := gw_1 (List.mem_of_getElem? (i := 128) rfl) rfl
theorem g_129 : (Cond.lays "java/lang/Throwable" "java/lang/Throwable" "suppressedExceptions" "Ljava/util/List;") ∈ GW := gw_1 (List.mem_of_getElem? (i := 129) rfl) rfl
theorem g_130 : (Cond.lays "java/lang/IllegalArgumentException" "java/lang/Throwable" "detailMessage" "Ljava/lang/String;") ∈ GW := gw_1 (List.mem_of_getElem? (i := 130) rfl) rfl
theorem g_131 : (Cond.lays "java/lang/Throwable" "java/lang/Throwable" "detailMessage" "Ljava/lang/String;") ∈ GW := gw_1 (List.mem_of_getElem? (i := 131) rfl) rfl
theorem g_132 : (Cond.lays "java/lang/IllegalArgumentException" "java/lang/Throwable" "backtrace" "Ljava/lang/Object;") ∈ GW := gw_1 (List.mem_of_getElem? (i := 132) rfl) rfl
theorem g_133 : (Cond.lays "java/lang/Throwable" "java/lang/Throwable" "backtrace" "Ljava/lang/Object;") ∈ GW := gw_1 (List.mem_of_getElem? (i := 133) rfl) rfl
theorem g_134 : (Cond.fieldLink "java/lang/Throwable" 198 "java/lang/Throwable" "backtrace" "Ljava/lang/Object;") ∈ GW := gw_1 (List.mem_of_getElem? (i := 134) rfl) rfl
theorem g_135 : (Cond.superclass "java/lang/Throwable" "java/lang/Object") ∈ GW := gw_1 (List.mem_of_getElem? (i := 135) rfl) rfl
theorem g_136 : (Cond.instanceMethod ⟨"java/lang/Throwable", "<init>", "()V"⟩) ∈ GW := gw_1 (List.mem_of_getElem? (i := 136) rfl) rfl
theorem g_137 : (Cond.code ⟨"java/lang/Throwable", "<init>", "()V"⟩ prog_18_method_1_code 1 (Option.none : Option FieldType)) ∈ GW := gw_1 (List.mem_of_getElem? (i := 137) rfl) rfl
theorem g_138 : (Cond.methodLink "java/lang/Throwable" 1 ⟨"java/lang/Object", "<init>", "()V"⟩) ∈ GW := gw_1 (List.mem_of_getElem? (i := 138) rfl) rfl
theorem g_139 : (Cond.fieldLink "java/lang/Throwable" 13 "java/lang/Throwable" "UNASSIGNED_STACK" "[Ljava/lang/StackTraceElement;") ∈ GW := gw_1 (List.mem_of_getElem? (i := 139) rfl) rfl
theorem g_140 : (Cond.laysStatic "java/lang/Throwable" "UNASSIGNED_STACK" "[Ljava/lang/StackTraceElement;") ∈ lw_tbl := tb_1 (List.mem_of_getElem? (i := 140) rfl)
theorem g_141 : (Cond.fieldLink "java/lang/Throwable" 20 "java/lang/Throwable" "SUPPRESSED_SENTINEL" "Ljava/util/List;") ∈ GW := gw_1 (List.mem_of_getElem? (i := 141) rfl) rfl
theorem g_142 : (Cond.laysStatic "java/lang/Throwable" "SUPPRESSED_SENTINEL" "Ljava/util/List;") ∈ lw_tbl := tb_1 (List.mem_of_getElem? (i := 142) rfl)
theorem g_143 : (Cond.methodLink "java/lang/Throwable" 27 ⟨"java/lang/Throwable", "fillInStackTrace", "()Ljava/lang/Throwable;"⟩) ∈ GW := gw_1 (List.mem_of_getElem? (i := 143) rfl) rfl
theorem g_144 : (Cond.instanceMethod ⟨"java/lang/Throwable", "fillInStackTrace", "()Ljava/lang/Throwable;"⟩) ∈ GW := gw_1 (List.mem_of_getElem? (i := 144) rfl) rfl
theorem g_145 : (Cond.sameMethod "java/lang/Throwable" "java/lang/Throwable" "fillInStackTrace" "()Ljava/lang/Throwable;") ∈ GW := gw_1 (List.mem_of_getElem? (i := 145) rfl) rfl
theorem g_146 : (Cond.selects "java/lang/IllegalStateException" ⟨"java/lang/Throwable", "fillInStackTrace", "()Ljava/lang/Throwable;"⟩ ⟨"java/lang/Throwable", "fillInStackTrace", "()Ljava/lang/Throwable;"⟩) ∈ GW := gw_1 (List.mem_of_getElem? (i := 146) rfl) rfl
theorem g_147 : (Cond.selects "java/lang/IndexOutOfBoundsException" ⟨"java/lang/Throwable", "fillInStackTrace", "()Ljava/lang/Throwable;"⟩ ⟨"java/lang/Throwable", "fillInStackTrace", "()Ljava/lang/Throwable;"⟩) ∈ GW := gw_1 (List.mem_of_getElem? (i := 147) rfl) rfl
theorem g_148 : (Cond.codeSync ⟨"java/lang/Throwable", "fillInStackTrace", "()Ljava/lang/Throwable;"⟩ prog_18_method_18_code 1 (Option.some (FieldType.object "java/lang/Throwable"))) ∈ GW := gw_1 (List.mem_of_getElem? (i := 148) rfl) rfl
theorem g_149 : (Cond.methodLink "java/lang/Throwable" 202 ⟨"java/lang/Throwable", "fillInStackTrace", "(I)Ljava/lang/Throwable;"⟩) ∈ GW := gw_1 (List.mem_of_getElem? (i := 149) rfl) rfl
theorem g_150 : (Cond.privateMethod ⟨"java/lang/Throwable", "fillInStackTrace", "(I)Ljava/lang/Throwable;"⟩) ∈ lw_tbl := tb_1 (List.mem_of_getElem? (i := 150) rfl)
theorem g_151 : (Cond.instanceMethod ⟨"java/lang/Throwable", "fillInStackTrace", "(I)Ljava/lang/Throwable;"⟩) ∈ GW := gw_1 (List.mem_of_getElem? (i := 151) rfl) rfl
theorem g_152 : (Cond.instantiable "java/lang/Throwable" 6) ∈ GW := gw_1 (List.mem_of_getElem? (i := 152) rfl) rfl
theorem g_153 : (Cond.native ⟨"java/lang/Throwable", "fillInStackTrace", "(I)Ljava/lang/Throwable;"⟩) ∈ GW := gw_1 (List.mem_of_getElem? (i := 153) rfl) rfl
theorem g_154 : (Cond.stringRef "LathePieces" 266 "a number is not as said") ∈ lw_tbl := tb_1 (List.mem_of_getElem? (i := 154) rfl)
theorem g_155 : (Cond.methodLink "LathePieces" 234 ⟨"java/lang/IllegalArgumentException", "<init>", "(Ljava/lang/String;)V"⟩) ∈ GW := gw_1 (List.mem_of_getElem? (i := 155) rfl) rfl
theorem g_156 : (Cond.instanceMethod ⟨"java/lang/IllegalArgumentException", "<init>", "(Ljava/lang/String;)V"⟩) ∈ GW := gw_1 (List.mem_of_getElem? (i := 156) rfl) rfl
theorem g_157 : (Cond.code ⟨"java/lang/IllegalArgumentException", "<init>", "(Ljava/lang/String;)V"⟩ prog_11_method_2_code 2 (Option.none : Option FieldType)) ∈ GW := gw_1 (List.mem_of_getElem? (i := 157) rfl) rfl
theorem g_158 : (Cond.methodLink "java/lang/IllegalArgumentException" 7 ⟨"java/lang/RuntimeException", "<init>", "(Ljava/lang/String;)V"⟩) ∈ GW := gw_1 (List.mem_of_getElem? (i := 158) rfl) rfl
theorem g_159 : (Cond.instanceMethod ⟨"java/lang/RuntimeException", "<init>", "(Ljava/lang/String;)V"⟩) ∈ GW := gw_1 (List.mem_of_getElem? (i := 159) rfl) rfl
theorem g_160 : (Cond.code ⟨"java/lang/RuntimeException", "<init>", "(Ljava/lang/String;)V"⟩ prog_15_method_2_code 2 (Option.none : Option FieldType)) ∈ GW := gw_1 (List.mem_of_getElem? (i := 160) rfl) rfl
theorem g_161 : (Cond.methodLink "java/lang/RuntimeException" 7 ⟨"java/lang/Exception", "<init>", "(Ljava/lang/String;)V"⟩) ∈ GW := gw_1 (List.mem_of_getElem? (i := 161) rfl) rfl
theorem g_162 : (Cond.instanceMethod ⟨"java/lang/Exception", "<init>", "(Ljava/lang/String;)V"⟩) ∈ GW := gw_1 (List.mem_of_getElem? (i := 162) rfl) rfl
theorem g_163 : (Cond.code ⟨"java/lang/Exception", "<init>", "(Ljava/lang/String;)V"⟩ prog_10_method_2_code 2 (Option.none : Option FieldType)) ∈ GW := gw_1 (List.mem_of_getElem? (i := 163) rfl) rfl
theorem g_164 : (Cond.methodLink "java/lang/Exception" 7 ⟨"java/lang/Throwable", "<init>", "(Ljava/lang/String;)V"⟩) ∈ GW := gw_1 (List.mem_of_getElem? (i := 164) rfl) rfl
theorem g_165 : (Cond.instanceMethod ⟨"java/lang/Throwable", "<init>", "(Ljava/lang/String;)V"⟩) ∈ GW := gw_1 (List.mem_of_getElem? (i := 165) rfl) rfl
theorem g_166 : (Cond.code ⟨"java/lang/Throwable", "<init>", "(Ljava/lang/String;)V"⟩ prog_18_method_2_code 2 (Option.none : Option FieldType)) ∈ GW := gw_1 (List.mem_of_getElem? (i := 166) rfl) rfl
theorem g_167 : (Cond.fieldLink "java/lang/Throwable" 198 "java/lang/Throwable" "backtrace" "Ljava/lang/Object;") ∈ GW := gw_1 (List.mem_of_getElem? (i := 167) rfl) rfl
theorem g_168 : (Cond.fieldLink "java/lang/Throwable" 31 "java/lang/Throwable" "detailMessage" "Ljava/lang/String;") ∈ GW := gw_1 (List.mem_of_getElem? (i := 168) rfl) rfl
theorem g_169 : (Cond.fieldLink "java/lang/Throwable" 7 "java/lang/Throwable" "cause" "Ljava/lang/Throwable;") ∈ GW := gw_1 (List.mem_of_getElem? (i := 169) rfl) rfl
theorem g_170 : (Cond.fieldLink "java/lang/Throwable" 17 "java/lang/Throwable" "stackTrace" "[Ljava/lang/StackTraceElement;") ∈ GW := gw_1 (List.mem_of_getElem? (i := 170) rfl) rfl
theorem g_171 : (Cond.fieldLink "java/lang/Throwable" 24 "java/lang/Throwable" "suppressedExceptions" "Ljava/util/List;") ∈ GW := gw_1 (List.mem_of_getElem? (i := 171) rfl) rfl
theorem g_172 : (Cond.soleField "java/lang/Throwable" "backtrace") ∈ GW := gw_1 (List.mem_of_getElem? (i := 172) rfl) rfl
theorem g_173 : (Cond.soleField "java/lang/Throwable" "detailMessage") ∈ GW := gw_1 (List.mem_of_getElem? (i := 173) rfl) rfl
theorem g_174 : (Cond.soleField "java/lang/Throwable" "cause") ∈ GW := gw_1 (List.mem_of_getElem? (i := 174) rfl) rfl
theorem g_175 : (Cond.soleField "java/lang/Throwable" "stackTrace") ∈ GW := gw_1 (List.mem_of_getElem? (i := 175) rfl) rfl
theorem g_176 : (Cond.lays "java/lang/IllegalArgumentException" "java/lang/Throwable" "depth" "I") ∈ GW := gw_1 (List.mem_of_getElem? (i := 176) rfl) rfl
theorem g_177 : (Cond.soleField "java/lang/Throwable" "depth") ∈ GW := gw_1 (List.mem_of_getElem? (i := 177) rfl) rfl
theorem g_178 : (Cond.soleField "java/lang/Throwable" "suppressedExceptions") ∈ GW := gw_1 (List.mem_of_getElem? (i := 178) rfl) rfl
theorem g_179 : (Cond.superclass "java/lang/IllegalArgumentException" "java/lang/RuntimeException") ∈ GW := gw_1 (List.mem_of_getElem? (i := 179) rfl) rfl
theorem g_180 : (Cond.arrayClass FieldType.byte) ∈ GW := gw_1 (List.mem_of_getElem? (i := 180) rfl) rfl
theorem g_181 : (Cond.methodLink "LathePieces" 51 ⟨"LathePieces$Profile", "begin", "(I)V"⟩) ∈ GW := gw_1 (List.mem_of_getElem? (i := 181) rfl) rfl
theorem g_182 : (Cond.instanceMethod ⟨"LathePieces$Profile", "begin", "(I)V"⟩) ∈ GW := gw_1 (List.mem_of_getElem? (i := 182) rfl) rfl
theorem g_183 : (Cond.selects "LathePieces$Profile" ⟨"LathePieces$Profile", "begin", "(I)V"⟩ ⟨"LathePieces$Profile", "begin", "(I)V"⟩) ∈ GW := gw_1 (List.mem_of_getElem? (i := 183) rfl) rfl
theorem g_184 : (Cond.code ⟨"LathePieces$Profile", "begin", "(I)V"⟩ prog_4_method_2_code 2 (Option.none : Option FieldType)) ∈ GW := gw_1 (List.mem_of_getElem? (i := 184) rfl) rfl
theorem g_185 : (Cond.methodLink "LathePiecesLaw" 116 ⟨"LathePiecesLaw", "line", "(LLathePieces;II[J)I"⟩) ∈ GW := gw_1 (List.mem_of_getElem? (i := 185) rfl) rfl
theorem g_186 : (Cond.static ⟨"LathePiecesLaw", "line", "(LLathePieces;II[J)I"⟩) ∈ GW := gw_1 (List.mem_of_getElem? (i := 186) rfl) rfl
theorem g_187 : (Cond.codeWith ⟨"LathePiecesLaw", "line", "(LLathePieces;II[J)I"⟩ method_4_code 5 (Option.some FieldType.int) [(0, 10, 13, 13), (0, 10, 17, 19)]) ∈ GW := gw_1 (List.mem_of_getElem? (i := 187) rfl) rfl
theorem g_188 : (Cond.classLink "LathePiecesLaw" 19 "java/lang/IllegalStateException") ∈ GW := gw_1 (List.mem_of_getElem? (i := 188) rfl) rfl
theorem g_189 : (Cond.methodLink "LathePiecesLaw" 15 ⟨"LathePieces", "line", "(II)I"⟩) ∈ GW := gw_1 (List.mem_of_getElem? (i := 189) rfl) rfl
theorem g_190 : (Cond.instanceMethod ⟨"LathePieces", "line", "(II)I"⟩) ∈ GW := gw_1 (List.mem_of_getElem? (i := 190) rfl) rfl
theorem g_191 : (Cond.selects "LathePieces" ⟨"LathePieces", "line", "(II)I"⟩ ⟨"LathePieces", "line", "(II)I"⟩) ∈ GW := gw_1 (List.mem_of_getElem? (i := 191) rfl) rfl
theorem g_192 : (Cond.code ⟨"LathePieces", "line", "(II)I"⟩ prog_1_method_3_code 3 (Option.some FieldType.int)) ∈ GW := gw_1 (List.mem_of_getElem? (i := 192) rfl) rfl
theorem g_193 : (Cond.methodLink "LathePieces" 55 ⟨"LathePieces", "checkWayEnd", "(II)V"⟩) ∈ GW := gw_1 (List.mem_of_getElem? (i := 193) rfl) rfl
theorem g_194 : (Cond.static ⟨"LathePieces", "checkWayEnd", "(II)V"⟩) ∈ GW := gw_1 (List.mem_of_getElem? (i := 194) rfl) rfl
theorem g_195 : (Cond.code ⟨"LathePieces", "checkWayEnd", "(II)V"⟩ prog_1_method_32_code 2 (Option.none : Option FieldType)) ∈ GW := gw_1 (List.mem_of_getElem? (i := 195) rfl) rfl
theorem g_196 : (Cond.methodLink "LathePieces" 59 ⟨"LathePieces", "checkBehindLast", "(I)V"⟩) ∈ GW := gw_1 (List.mem_of_getElem? (i := 196) rfl) rfl
theorem g_197 : (Cond.privateMethod ⟨"LathePieces", "checkBehindLast", "(I)V"⟩) ∈ lw_tbl := tb_1 (List.mem_of_getElem? (i := 197) rfl)
theorem g_198 : (Cond.instanceMethod ⟨"LathePieces", "checkBehindLast", "(I)V"⟩) ∈ GW := gw_1 (List.mem_of_getElem? (i := 198) rfl) rfl
theorem g_199 : (Cond.code ⟨"LathePieces", "checkBehindLast", "(I)V"⟩ prog_1_method_33_code 2 (Option.none : Option FieldType)) ∈ GW := gw_1 (List.mem_of_getElem? (i := 199) rfl) rfl
theorem g_200 : (Cond.classLink "LathePieces" 80 "java/lang/IllegalStateException") ∈ GW := gw_1 (List.mem_of_getElem? (i := 200) rfl) rfl
theorem g_201 : (Cond.instantiable "java/lang/IllegalStateException" 6) ∈ GW := gw_1 (List.mem_of_getElem? (i := 201) rfl) rfl
theorem g_202 : (Cond.castable "java/lang/IllegalStateException" "java/lang/IllegalStateException") ∈ lw_tbl := tb_1 (List.mem_of_getElem? (i := 202) rfl)
theorem g_203 : (Cond.selects "java/lang/IllegalStateException" ⟨"java/lang/Throwable", "fillInStackTrace", "(I)Ljava/lang/Throwable;"⟩ ⟨"java/lang/Throwable", "fillInStackTrace", "(I)Ljava/lang/Throwable;"⟩) ∈ GW := gw_1 (List.mem_of_getElem? (i := 203) rfl) rfl
theorem g_204 : (Cond.lays "java/lang/IllegalStateException" "java/lang/Throwable" "cause" "Ljava/lang/Throwable;") ∈ GW := gw_1 (List.mem_of_getElem? (i := 204) rfl) rfl
theorem g_205 : (Cond.lays "java/lang/IllegalStateException" "java/lang/Throwable" "stackTrace" "[Ljava/lang/StackTraceElement;") ∈ GW := gw_1 (List.mem_of_getElem? (i := 205) rfl) rfl
theorem g_206 : (Cond.lays "java/lang/IllegalStateException" "java/lang/Throwable" "suppressedExceptions" "Ljava/util/List;") ∈ GW := gw_1 (List.mem_of_getElem? (i := 206) rfl) rfl
theorem g_207 : (Cond.lays "java/lang/IllegalStateException" "java/lang/Throwable" "detailMessage" "Ljava/lang/String;") ∈ GW := gw_1 (List.mem_of_getElem? (i := 207) rfl) rfl
theorem g_208 : (Cond.lays "java/lang/IllegalStateException" "java/lang/Throwable" "backtrace" "Ljava/lang/Object;") ∈ GW := gw_1 (List.mem_of_getElem? (i := 208) rfl) rfl
theorem g_209 : (Cond.stringRef "LathePieces" 259 "no profile was begun") ∈ lw_tbl := tb_1 (List.mem_of_getElem? (i := 209) rfl)
theorem g_210 : (Cond.methodLink "LathePieces" 84 ⟨"java/lang/IllegalStateException", "<init>", "(Ljava/lang/String;)V"⟩) ∈ GW := gw_1 (List.mem_of_getElem? (i := 210) rfl) rfl
theorem g_211 : (Cond.instanceMethod ⟨"java/lang/IllegalStateException", "<init>", "(Ljava/lang/String;)V"⟩) ∈ GW := gw_1 (List.mem_of_getElem? (i := 211) rfl) rfl
theorem g_212 : (Cond.code ⟨"java/lang/IllegalStateException", "<init>", "(Ljava/lang/String;)V"⟩ prog_12_method_2_code 2 (Option.none : Option FieldType)) ∈ GW := gw_1 (List.mem_of_getElem? (i := 212) rfl) rfl
theorem g_213 : (Cond.methodLink "java/lang/IllegalStateException" 7 ⟨"java/lang/RuntimeException", "<init>", "(Ljava/lang/String;)V"⟩) ∈ GW := gw_1 (List.mem_of_getElem? (i := 213) rfl) rfl
theorem g_214 : (Cond.lays "java/lang/IllegalStateException" "java/lang/Throwable" "depth" "I") ∈ GW := gw_1 (List.mem_of_getElem? (i := 214) rfl) rfl
theorem g_215 : (Cond.superclass "java/lang/IllegalStateException" "java/lang/RuntimeException") ∈ GW := gw_1 (List.mem_of_getElem? (i := 215) rfl) rfl
theorem g_216 : (Cond.stringRef "LathePieces" 264 "not behind the last place") ∈ lw_tbl := tb_1 (List.mem_of_getElem? (i := 216) rfl)
theorem g_217 : (Cond.methodLink "LathePieces" 62 ⟨"LathePieces$Profile", "addLine", "(II)V"⟩) ∈ GW := gw_1 (List.mem_of_getElem? (i := 217) rfl) rfl
theorem g_218 : (Cond.instanceMethod ⟨"LathePieces$Profile", "addLine", "(II)V"⟩) ∈ GW := gw_1 (List.mem_of_getElem? (i := 218) rfl) rfl
theorem g_219 : (Cond.selects "LathePieces$Profile" ⟨"LathePieces$Profile", "addLine", "(II)V"⟩ ⟨"LathePieces$Profile", "addLine", "(II)V"⟩) ∈ GW := gw_1 (List.mem_of_getElem? (i := 219) rfl) rfl
theorem g_220 : (Cond.code ⟨"LathePieces$Profile", "addLine", "(II)V"⟩ prog_4_method_3_code 5 (Option.none : Option FieldType)) ∈ GW := gw_1 (List.mem_of_getElem? (i := 220) rfl) rfl
theorem g_221 : (Cond.methodLink "LathePieces$Profile" 29 ⟨"java/lang/Math", "floorDiv", "(II)I"⟩) ∈ GW := gw_1 (List.mem_of_getElem? (i := 221) rfl) rfl
theorem g_222 : (Cond.static ⟨"java/lang/Math", "floorDiv", "(II)I"⟩) ∈ GW := gw_1 (List.mem_of_getElem? (i := 222) rfl) rfl
theorem g_223 : (Cond.code ⟨"java/lang/Math", "floorDiv", "(II)I"⟩ prog_14_method_47_code 3 (Option.some FieldType.int)) ∈ GW := gw_1 (List.mem_of_getElem? (i := 223) rfl) rfl
theorem g_224 : (Cond.methodLink "LathePieces$Profile" 35 ⟨"LathePieces$Profile", "goOnFrom", "(II)V"⟩) ∈ GW := gw_1 (List.mem_of_getElem? (i := 224) rfl) rfl
theorem g_225 : (Cond.instanceMethod ⟨"LathePieces$Profile", "goOnFrom", "(II)V"⟩) ∈ GW := gw_1 (List.mem_of_getElem? (i := 225) rfl) rfl
theorem g_226 : (Cond.selects "LathePieces$Profile" ⟨"LathePieces$Profile", "goOnFrom", "(II)V"⟩ ⟨"LathePieces$Profile", "goOnFrom", "(II)V"⟩) ∈ GW := gw_1 (List.mem_of_getElem? (i := 226) rfl) rfl
theorem g_227 : (Cond.code ⟨"LathePieces$Profile", "goOnFrom", "(II)V"⟩ prog_4_method_6_code 3 (Option.none : Option FieldType)) ∈ GW := gw_1 (List.mem_of_getElem? (i := 227) rfl) rfl
theorem g_228 : (Cond.methodLink "LathePiecesLaw" 120 ⟨"LathePiecesLaw", "arc", "(LLathePieces;IIIIZ[J)I"⟩) ∈ GW := gw_1 (List.mem_of_getElem? (i := 228) rfl) rfl
theorem g_229 : (Cond.static ⟨"LathePiecesLaw", "arc", "(LLathePieces;IIIIZ[J)I"⟩) ∈ GW := gw_1 (List.mem_of_getElem? (i := 229) rfl) rfl
theorem g_230 : (Cond.codeWith ⟨"LathePiecesLaw", "arc", "(LLathePieces;IIIIZ[J)I"⟩ method_5_code 8 (Option.some FieldType.int) [(0, 23, 26, 13), (0, 23, 30, 19)]) ∈ GW := gw_1 (List.mem_of_getElem? (i := 230) rfl) rfl
theorem g_231 : (Cond.methodLink "LathePiecesLaw" 21 ⟨"LathePieces", "arc", "(IIIIZ)Z"⟩) ∈ GW := gw_1 (List.mem_of_getElem? (i := 231) rfl) rfl
theorem g_232 : (Cond.instanceMethod ⟨"LathePieces", "arc", "(IIIIZ)Z"⟩) ∈ GW := gw_1 (List.mem_of_getElem? (i := 232) rfl) rfl
theorem g_233 : (Cond.selects "LathePieces" ⟨"LathePieces", "arc", "(IIIIZ)Z"⟩ ⟨"LathePieces", "arc", "(IIIIZ)Z"⟩) ∈ GW := gw_1 (List.mem_of_getElem? (i := 233) rfl) rfl
theorem g_234 : (Cond.code ⟨"LathePieces", "arc", "(IIIIZ)Z"⟩ prog_1_method_4_code 6 (Option.some FieldType.boolean)) ∈ GW := gw_1 (List.mem_of_getElem? (i := 234) rfl) rfl
theorem g_235 : (Cond.methodLink "LathePieces" 69 ⟨"LathePieces$Profile", "arcFits", "(IIIIZ)Z"⟩) ∈ GW := gw_1 (List.mem_of_getElem? (i := 235) rfl) rfl
theorem g_236 : (Cond.instanceMethod ⟨"LathePieces$Profile", "arcFits", "(IIIIZ)Z"⟩) ∈ GW := gw_1 (List.mem_of_getElem? (i := 236) rfl) rfl
theorem g_237 : (Cond.selects "LathePieces$Profile" ⟨"LathePieces$Profile", "arcFits", "(IIIIZ)Z"⟩ ⟨"LathePieces$Profile", "arcFits", "(IIIIZ)Z"⟩) ∈ GW := gw_1 (List.mem_of_getElem? (i := 237) rfl) rfl
theorem g_238 : (Cond.code ⟨"LathePieces$Profile", "arcFits", "(IIIIZ)Z"⟩ prog_4_method_4_code 8 (Option.some FieldType.boolean)) ∈ GW := gw_1 (List.mem_of_getElem? (i := 238) rfl) rfl
theorem g_239 : (Cond.methodLink "LathePieces$Profile" 39 ⟨"LathePieces$Profile", "squareFar", "(II)I"⟩) ∈ GW := gw_1 (List.mem_of_getElem? (i := 239) rfl) rfl
theorem g_240 : (Cond.static ⟨"LathePieces$Profile", "squareFar", "(II)I"⟩) ∈ GW := gw_2 (List.mem_of_getElem? (i := 0) rfl) rfl
theorem g_241 : (Cond.code ⟨"LathePieces$Profile", "squareFar", "(II)I"⟩ prog_4_method_7_code 2 (Option.some FieldType.int)) ∈ GW := gw_2 (List.mem_of_getElem? (i := 1) rfl) rfl
theorem g_242 : (Cond.methodLink "LathePieces" 73 ⟨"LathePieces$Profile", "addArc", "(IIIIZ)V"⟩) ∈ GW := gw_2 (List.mem_of_getElem? (i := 2) rfl) rfl
theorem g_243 : (Cond.instanceMethod ⟨"LathePieces$Profile", "addArc", "(IIIIZ)V"⟩) ∈ GW := gw_2 (List.mem_of_getElem? (i := 3) rfl) rfl
theorem g_244 : (Cond.selects "LathePieces$Profile" ⟨"LathePieces$Profile", "addArc", "(IIIIZ)V"⟩ ⟨"LathePieces$Profile", "addArc", "(IIIIZ)V"⟩) ∈ GW := gw_2 (List.mem_of_getElem? (i := 4) rfl) rfl
theorem g_245 : (Cond.code ⟨"LathePieces$Profile", "addArc", "(IIIIZ)V"⟩ prog_4_method_5_code 9 (Option.none : Option FieldType)) ∈ GW := gw_2 (List.mem_of_getElem? (i := 5) rfl) rfl
theorem g_246 : (Cond.methodLinkNest "LathePieces$Profile" 42 ⟨"LathePieces", "wholeRoot", "(I)I"⟩ "LathePieces") ∈ lw_tbl := tb_2 (List.mem_of_getElem? (i := 6) rfl)
theorem g_247 : (Cond.static ⟨"LathePieces", "wholeRoot", "(I)I"⟩) ∈ GW := gw_2 (List.mem_of_getElem? (i := 7) rfl) rfl
theorem g_248 : (Cond.code ⟨"LathePieces", "wholeRoot", "(I)I"⟩ prog_1_method_39_code 4 (Option.some FieldType.int)) ∈ GW := gw_2 (List.mem_of_getElem? (i := 8) rfl) rfl
theorem g_249 : (Cond.methodLink "LathePieces$Profile" 46 ⟨"java/lang/Math", "min", "(II)I"⟩) ∈ GW := gw_2 (List.mem_of_getElem? (i := 9) rfl) rfl
theorem g_250 : (Cond.static ⟨"java/lang/Math", "min", "(II)I"⟩) ∈ GW := gw_2 (List.mem_of_getElem? (i := 10) rfl) rfl
theorem g_251 : (Cond.code ⟨"java/lang/Math", "min", "(II)I"⟩ prog_14_method_69_code 2 (Option.some FieldType.int)) ∈ GW := gw_2 (List.mem_of_getElem? (i := 11) rfl) rfl
theorem g_252 : (Cond.methodLink "LathePieces$Profile" 49 ⟨"java/lang/Math", "max", "(II)I"⟩) ∈ GW := gw_2 (List.mem_of_getElem? (i := 12) rfl) rfl
theorem g_253 : (Cond.static ⟨"java/lang/Math", "max", "(II)I"⟩) ∈ GW := gw_2 (List.mem_of_getElem? (i := 13) rfl) rfl
theorem g_254 : (Cond.code ⟨"java/lang/Math", "max", "(II)I"⟩ prog_14_method_65_code 2 (Option.some FieldType.int)) ∈ GW := gw_2 (List.mem_of_getElem? (i := 14) rfl) rfl
theorem g_255 : (Cond.methodLink "LathePiecesLaw" 124 ⟨"LathePiecesLaw", "turn", "(LLathePieces;[J)I"⟩) ∈ GW := gw_2 (List.mem_of_getElem? (i := 15) rfl) rfl
theorem g_256 : (Cond.static ⟨"LathePiecesLaw", "turn", "(LLathePieces;[J)I"⟩) ∈ GW := gw_2 (List.mem_of_getElem? (i := 16) rfl) rfl
theorem g_257 : (Cond.codeWith ⟨"LathePiecesLaw", "turn", "(LLathePieces;[J)I"⟩ method_6_code 3 (Option.some FieldType.int) [(0, 8, 11, 19)]) ∈ GW := gw_2 (List.mem_of_getElem? (i := 17) rfl) rfl
theorem g_258 : (Cond.methodLink "LathePiecesLaw" 25 ⟨"LathePieces", "turn", "()I"⟩) ∈ GW := gw_2 (List.mem_of_getElem? (i := 18) rfl) rfl
theorem g_259 : (Cond.instanceMethod ⟨"LathePieces", "turn", "()I"⟩) ∈ GW := gw_2 (List.mem_of_getElem? (i := 19) rfl) rfl
theorem g_260 : (Cond.selects "LathePieces" ⟨"LathePieces", "turn", "()I"⟩ ⟨"LathePieces", "turn", "()I"⟩) ∈ GW := gw_2 (List.mem_of_getElem? (i := 20) rfl) rfl
theorem g_261 : (Cond.code ⟨"LathePieces", "turn", "()I"⟩ prog_1_method_5_code 1 (Option.some FieldType.int)) ∈ GW := gw_2 (List.mem_of_getElem? (i := 21) rfl) rfl
theorem g_262 : (Cond.stringRef "LathePieces" 82 "no room for a piece, or no way to turn") ∈ lw_tbl := tb_2 (List.mem_of_getElem? (i := 22) rfl)
theorem g_263 : (Cond.instantiable "LathePieces$Piece" 4) ∈ GW := gw_2 (List.mem_of_getElem? (i := 23) rfl) rfl
theorem g_264 : (Cond.methodLink "LathePieces" 87 ⟨"LathePieces$Piece", "<init>", "(LLathePieces$Profile;)V"⟩) ∈ GW := gw_2 (List.mem_of_getElem? (i := 24) rfl) rfl
theorem g_265 : (Cond.instanceMethod ⟨"LathePieces$Piece", "<init>", "(LLathePieces$Profile;)V"⟩) ∈ GW := gw_2 (List.mem_of_getElem? (i := 25) rfl) rfl
theorem g_266 : (Cond.code ⟨"LathePieces$Piece", "<init>", "(LLathePieces$Profile;)V"⟩ prog_3_method_1_code 4 (Option.none : Option FieldType)) ∈ GW := gw_2 (List.mem_of_getElem? (i := 26) rfl) rfl
theorem g_267 : (Cond.methodLink "LathePieces$Piece" 3 ⟨"java/lang/Object", "<init>", "()V"⟩) ∈ GW := gw_2 (List.mem_of_getElem? (i := 27) rfl) rfl
theorem g_268 : (Cond.methodLink "LathePieces$Piece" 19 ⟨"java/util/Arrays", "copyOf", "([II)[I"⟩) ∈ GW := gw_2 (List.mem_of_getElem? (i := 28) rfl) rfl
theorem g_269 : (Cond.static ⟨"java/util/Arrays", "copyOf", "([II)[I"⟩) ∈ GW := gw_2 (List.mem_of_getElem? (i := 29) rfl) rfl
theorem g_270 : (Cond.code ⟨"java/util/Arrays", "copyOf", "([II)[I"⟩ prog_19_method_123_code 3 (Option.some (FieldType.array FieldType.int))) ∈ GW := gw_2 (List.mem_of_getElem? (i := 30) rfl) rfl
theorem g_271 : (Cond.methodLink "java/util/Arrays" 316 ⟨"[I", "clone", "()Ljava/lang/Object;"⟩) ∈ GW := gw_2 (List.mem_of_getElem? (i := 31) rfl) rfl
theorem g_272 : (Cond.sameMethod "[I" "java/lang/Object" "clone" "()Ljava/lang/Object;") ∈ GW := gw_2 (List.mem_of_getElem? (i := 32) rfl) rfl
theorem g_273 : (Cond.native ⟨"java/lang/Object", "clone", "()Ljava/lang/Object;"⟩) ∈ GW := gw_2 (List.mem_of_getElem? (i := 33) rfl) rfl
theorem g_274 : (Cond.instanceMethod ⟨"java/lang/Object", "clone", "()Ljava/lang/Object;"⟩) ∈ GW := gw_2 (List.mem_of_getElem? (i := 34) rfl) rfl
theorem g_275 : (Cond.selects "[I" ⟨"[I", "clone", "()Ljava/lang/Object;"⟩ ⟨"java/lang/Object", "clone", "()Ljava/lang/Object;"⟩) ∈ GW := gw_2 (List.mem_of_getElem? (i := 35) rfl) rfl
theorem g_276 : (Cond.castable "[I" "java/lang/Cloneable") ∈ lw_tbl := tb_2 (List.mem_of_getElem? (i := 36) rfl)
theorem g_277 : (Cond.classLink "java/util/Arrays" 317 "[I") ∈ GW := gw_2 (List.mem_of_getElem? (i := 37) rfl) rfl
theorem g_278 : (Cond.methodLink "java/util/Arrays" 304 ⟨"java/lang/Math", "min", "(II)I"⟩) ∈ GW := gw_2 (List.mem_of_getElem? (i := 38) rfl) rfl
theorem g_279 : (Cond.methodLink "java/util/Arrays" 150 ⟨"java/lang/System", "arraycopy", "(Ljava/lang/Object;ILjava/lang/Object;II)V"⟩) ∈ GW := gw_2 (List.mem_of_getElem? (i := 39) rfl) rfl
theorem g_280 : (Cond.static ⟨"java/lang/System", "arraycopy", "(Ljava/lang/Object;ILjava/lang/Object;II)V"⟩) ∈ GW := gw_2 (List.mem_of_getElem? (i := 40) rfl) rfl
theorem g_281 : (Cond.native ⟨"java/lang/System", "arraycopy", "(Ljava/lang/Object;ILjava/lang/Object;II)V"⟩) ∈ GW := gw_2 (List.mem_of_getElem? (i := 41) rfl) rfl
theorem g_282 : (Cond.methodLink "LathePieces$Piece" 35 ⟨"java/lang/Math", "max", "(II)I"⟩) ∈ GW := gw_2 (List.mem_of_getElem? (i := 42) rfl) rfl
theorem g_283 : (Cond.fieldLink "LathePieces$Piece" 25 "LathePieces$Piece" "radii" "[I") ∈ GW := gw_2 (List.mem_of_getElem? (i := 43) rfl) rfl
theorem g_284 : (Cond.fieldLink "LathePieces" 126 "LathePieces$Piece" "radii" "[I") ∈ GW := gw_2 (List.mem_of_getElem? (i := 44) rfl) rfl
theorem g_285 : (Cond.fieldLink "LathePieces$Piece" 28 "LathePieces$Piece" "length" "I") ∈ GW := gw_2 (List.mem_of_getElem? (i := 45) rfl) rfl
theorem g_286 : (Cond.fieldLink "LathePieces" 98 "LathePieces$Piece" "length" "I") ∈ GW := gw_2 (List.mem_of_getElem? (i := 46) rfl) rfl
theorem g_287 : (Cond.fieldLink "LathePieces$Piece" 41 "LathePieces$Piece" "blank" "I") ∈ GW := gw_2 (List.mem_of_getElem? (i := 47) rfl) rfl
theorem g_288 : (Cond.fieldLink "LathePieces" 101 "LathePieces$Piece" "blank" "I") ∈ GW := gw_2 (List.mem_of_getElem? (i := 48) rfl) rfl
theorem g_289 : (Cond.fieldLink "LathePieces$Piece" 34 "LathePieces$Piece" "ways" "I") ∈ GW := gw_2 (List.mem_of_getElem? (i := 49) rfl) rfl
theorem g_290 : (Cond.fieldLink "LathePieces" 104 "LathePieces$Piece" "ways" "I") ∈ GW := gw_2 (List.mem_of_getElem? (i := 50) rfl) rfl
theorem g_291 : (Cond.laysFinal "LathePieces$Piece" "LathePieces$Piece" "radii" "[I") ∈ GW := gw_2 (List.mem_of_getElem? (i := 51) rfl) rfl
theorem g_292 : (Cond.soleField "LathePieces$Piece" "radii") ∈ GW := gw_2 (List.mem_of_getElem? (i := 52) rfl) rfl
theorem g_293 : (Cond.laysFinal "LathePieces$Piece" "LathePieces$Piece" "length" "I") ∈ GW := gw_2 (List.mem_of_getElem? (i := 53) rfl) rfl
theorem g_294 : (Cond.soleField "LathePieces$Piece" "length") ∈ GW := gw_2 (List.mem_of_getElem? (i := 54) rfl) rfl
theorem g_295 : (Cond.laysFinal "LathePieces$Piece" "LathePieces$Piece" "blank" "I") ∈ GW := gw_2 (List.mem_of_getElem? (i := 55) rfl) rfl
theorem g_296 : (Cond.soleField "LathePieces$Piece" "blank") ∈ GW := gw_2 (List.mem_of_getElem? (i := 56) rfl) rfl
theorem g_297 : (Cond.laysFinal "LathePieces$Piece" "LathePieces$Piece" "ways" "I") ∈ GW := gw_2 (List.mem_of_getElem? (i := 57) rfl) rfl
theorem g_298 : (Cond.soleField "LathePieces$Piece" "ways") ∈ GW := gw_2 (List.mem_of_getElem? (i := 58) rfl) rfl
theorem g_299 : (Cond.superclass "LathePieces$Piece" "java/lang/Object") ∈ GW := gw_2 (List.mem_of_getElem? (i := 59) rfl) rfl
theorem g_300 : (Cond.methodLink "LathePiecesLaw" 128 ⟨"LathePiecesLaw", "radius", "(LLathePieces;II[J)I"⟩) ∈ GW := gw_2 (List.mem_of_getElem? (i := 60) rfl) rfl
theorem g_301 : (Cond.static ⟨"LathePiecesLaw", "radius", "(LLathePieces;II[J)I"⟩) ∈ GW := gw_2 (List.mem_of_getElem? (i := 61) rfl) rfl
theorem g_302 : (Cond.codeWith ⟨"LathePiecesLaw", "radius", "(LLathePieces;II[J)I"⟩ method_7_code 5 (Option.some FieldType.int) [(0, 10, 13, 32)]) ∈ GW := gw_2 (List.mem_of_getElem? (i := 62) rfl) rfl
theorem g_303 : (Cond.classLink "LathePiecesLaw" 32 "java/lang/IndexOutOfBoundsException") ∈ GW := gw_2 (List.mem_of_getElem? (i := 63) rfl) rfl
theorem g_304 : (Cond.methodLink "LathePiecesLaw" 29 ⟨"LathePieces", "radius", "(II)I"⟩) ∈ GW := gw_2 (List.mem_of_getElem? (i := 64) rfl) rfl
theorem g_305 : (Cond.instanceMethod ⟨"LathePieces", "radius", "(II)I"⟩) ∈ GW := gw_2 (List.mem_of_getElem? (i := 65) rfl) rfl
theorem g_306 : (Cond.selects "LathePieces" ⟨"LathePieces", "radius", "(II)I"⟩ ⟨"LathePieces", "radius", "(II)I"⟩) ∈ GW := gw_2 (List.mem_of_getElem? (i := 66) rfl) rfl
theorem g_307 : (Cond.code ⟨"LathePieces", "radius", "(II)I"⟩ prog_1_method_6_code 3 (Option.some FieldType.int)) ∈ GW := gw_2 (List.mem_of_getElem? (i := 67) rfl) rfl
theorem g_308 : (Cond.methodLink "LathePieces" 90 ⟨"LathePieces", "radiusAt", "(II)I"⟩) ∈ GW := gw_2 (List.mem_of_getElem? (i := 68) rfl) rfl
theorem g_309 : (Cond.privateMethod ⟨"LathePieces", "radiusAt", "(II)I"⟩) ∈ lw_tbl := tb_2 (List.mem_of_getElem? (i := 69) rfl)
theorem g_310 : (Cond.instanceMethod ⟨"LathePieces", "radiusAt", "(II)I"⟩) ∈ GW := gw_2 (List.mem_of_getElem? (i := 70) rfl) rfl
theorem g_311 : (Cond.code ⟨"LathePieces", "radiusAt", "(II)I"⟩ prog_1_method_30_code 4 (Option.some FieldType.int)) ∈ GW := gw_2 (List.mem_of_getElem? (i := 71) rfl) rfl
theorem g_312 : (Cond.methodLink "LathePieces" 94 ⟨"LathePieces", "pieceAt", "(I)LLathePieces$Piece;"⟩) ∈ GW := gw_2 (List.mem_of_getElem? (i := 72) rfl) rfl
theorem g_313 : (Cond.privateMethod ⟨"LathePieces", "pieceAt", "(I)LLathePieces$Piece;"⟩) ∈ lw_tbl := tb_2 (List.mem_of_getElem? (i := 73) rfl)
theorem g_314 : (Cond.instanceMethod ⟨"LathePieces", "pieceAt", "(I)LLathePieces$Piece;"⟩) ∈ GW := gw_2 (List.mem_of_getElem? (i := 74) rfl) rfl
theorem g_315 : (Cond.code ⟨"LathePieces", "pieceAt", "(I)LLathePieces$Piece;"⟩ prog_1_method_27_code 3 (Option.some (FieldType.object "LathePieces$Piece"))) ∈ GW := gw_2 (List.mem_of_getElem? (i := 75) rfl) rfl
theorem g_316 : (Cond.classLink "LathePieces" 105 "java/lang/IndexOutOfBoundsException") ∈ GW := gw_2 (List.mem_of_getElem? (i := 76) rfl) rfl
theorem g_317 : (Cond.instantiable "java/lang/IndexOutOfBoundsException" 6) ∈ GW := gw_2 (List.mem_of_getElem? (i := 77) rfl) rfl
theorem g_318 : (Cond.castable "java/lang/IndexOutOfBoundsException" "java/lang/IndexOutOfBoundsException") ∈ lw_tbl := tb_2 (List.mem_of_getElem? (i := 78) rfl)
theorem g_319 : (Cond.selects "java/lang/IndexOutOfBoundsException" ⟨"java/lang/Throwable", "fillInStackTrace", "(I)Ljava/lang/Throwable;"⟩ ⟨"java/lang/Throwable", "fillInStackTrace", "(I)Ljava/lang/Throwable;"⟩) ∈ GW := gw_2 (List.mem_of_getElem? (i := 79) rfl) rfl
theorem g_320 : (Cond.lays "java/lang/IndexOutOfBoundsException" "java/lang/Throwable" "cause" "Ljava/lang/Throwable;") ∈ GW := gw_2 (List.mem_of_getElem? (i := 80) rfl) rfl
theorem g_321 : (Cond.lays "java/lang/IndexOutOfBoundsException" "java/lang/Throwable" "stackTrace" "[Ljava/lang/StackTraceElement;") ∈ GW := gw_2 (List.mem_of_getElem? (i := 81) rfl) rfl
theorem g_322 : (Cond.lays "java/lang/IndexOutOfBoundsException" "java/lang/Throwable" "suppressedExceptions" "Ljava/util/List;") ∈ GW := gw_2 (List.mem_of_getElem? (i := 82) rfl) rfl
theorem g_323 : (Cond.lays "java/lang/IndexOutOfBoundsException" "java/lang/Throwable" "detailMessage" "Ljava/lang/String;") ∈ GW := gw_2 (List.mem_of_getElem? (i := 83) rfl) rfl
theorem g_324 : (Cond.lays "java/lang/IndexOutOfBoundsException" "java/lang/Throwable" "backtrace" "Ljava/lang/Object;") ∈ GW := gw_2 (List.mem_of_getElem? (i := 84) rfl) rfl
theorem g_325 : (Cond.stringRef "LathePieces" 239 "no such piece") ∈ lw_tbl := tb_2 (List.mem_of_getElem? (i := 85) rfl)
theorem g_326 : (Cond.methodLink "LathePieces" 109 ⟨"java/lang/IndexOutOfBoundsException", "<init>", "(Ljava/lang/String;)V"⟩) ∈ GW := gw_2 (List.mem_of_getElem? (i := 86) rfl) rfl
theorem g_327 : (Cond.instanceMethod ⟨"java/lang/IndexOutOfBoundsException", "<init>", "(Ljava/lang/String;)V"⟩) ∈ GW := gw_2 (List.mem_of_getElem? (i := 87) rfl) rfl
theorem g_328 : (Cond.code ⟨"java/lang/IndexOutOfBoundsException", "<init>", "(Ljava/lang/String;)V"⟩ prog_13_method_2_code 2 (Option.none : Option FieldType)) ∈ GW := gw_2 (List.mem_of_getElem? (i := 88) rfl) rfl
theorem g_329 : (Cond.methodLink "java/lang/IndexOutOfBoundsException" 7 ⟨"java/lang/RuntimeException", "<init>", "(Ljava/lang/String;)V"⟩) ∈ GW := gw_2 (List.mem_of_getElem? (i := 89) rfl) rfl
theorem g_330 : (Cond.lays "java/lang/IndexOutOfBoundsException" "java/lang/Throwable" "depth" "I") ∈ GW := gw_2 (List.mem_of_getElem? (i := 90) rfl) rfl
theorem g_331 : (Cond.superclass "java/lang/IndexOutOfBoundsException" "java/lang/RuntimeException") ∈ GW := gw_2 (List.mem_of_getElem? (i := 91) rfl) rfl
theorem g_332 : (Cond.stringRef "LathePieces" 124 "no such place") ∈ lw_tbl := tb_2 (List.mem_of_getElem? (i := 92) rfl)
theorem g_333 : (Cond.methodLink "LathePiecesLaw" 131 ⟨"LathePiecesLaw", "about", "(LLathePieces;II[J)I"⟩) ∈ GW := gw_2 (List.mem_of_getElem? (i := 93) rfl) rfl
theorem g_334 : (Cond.static ⟨"LathePiecesLaw", "about", "(LLathePieces;II[J)I"⟩) ∈ GW := gw_2 (List.mem_of_getElem? (i := 94) rfl) rfl
theorem g_335 : (Cond.codeWith ⟨"LathePiecesLaw", "about", "(LLathePieces;II[J)I"⟩ method_8_code 5 (Option.some FieldType.int) [(0, 10, 13, 32)]) ∈ GW := gw_2 (List.mem_of_getElem? (i := 95) rfl) rfl
theorem g_336 : (Cond.methodLink "LathePiecesLaw" 34 ⟨"LathePieces", "about", "(II)I"⟩) ∈ GW := gw_2 (List.mem_of_getElem? (i := 96) rfl) rfl
theorem g_337 : (Cond.instanceMethod ⟨"LathePieces", "about", "(II)I"⟩) ∈ GW := gw_2 (List.mem_of_getElem? (i := 97) rfl) rfl
theorem g_338 : (Cond.selects "LathePieces" ⟨"LathePieces", "about", "(II)I"⟩ ⟨"LathePieces", "about", "(II)I"⟩) ∈ GW := gw_2 (List.mem_of_getElem? (i := 98) rfl) rfl
theorem g_339 : (Cond.code ⟨"LathePieces", "about", "(II)I"⟩ prog_1_method_7_code 4 (Option.some FieldType.int)) ∈ GW := gw_2 (List.mem_of_getElem? (i := 99) rfl) rfl
theorem g_340 : (Cond.stringRef "LathePieces" 107 "no such what") ∈ lw_tbl := tb_2 (List.mem_of_getElem? (i := 100) rfl)
theorem g_341 : (Cond.methodLink "LathePiecesLaw" 134 ⟨"LathePiecesLaw", "tool", "(LLathePieces;I[J)I"⟩) ∈ GW := gw_2 (List.mem_of_getElem? (i := 101) rfl) rfl
theorem g_342 : (Cond.static ⟨"LathePiecesLaw", "tool", "(LLathePieces;I[J)I"⟩) ∈ GW := gw_2 (List.mem_of_getElem? (i := 102) rfl) rfl
theorem g_343 : (Cond.codeWith ⟨"LathePiecesLaw", "tool", "(LLathePieces;I[J)I"⟩ method_9_code 4 (Option.some FieldType.int) [(0, 9, 12, 13), (0, 9, 15, 19)]) ∈ GW := gw_2 (List.mem_of_getElem? (i := 103) rfl) rfl
theorem g_344 : (Cond.methodLink "LathePiecesLaw" 37 ⟨"LathePieces", "tool", "(I)I"⟩) ∈ GW := gw_2 (List.mem_of_getElem? (i := 104) rfl) rfl
theorem g_345 : (Cond.instanceMethod ⟨"LathePieces", "tool", "(I)I"⟩) ∈ GW := gw_2 (List.mem_of_getElem? (i := 105) rfl) rfl
theorem g_346 : (Cond.selects "LathePieces" ⟨"LathePieces", "tool", "(I)I"⟩ ⟨"LathePieces", "tool", "(I)I"⟩) ∈ GW := gw_2 (List.mem_of_getElem? (i := 106) rfl) rfl
theorem g_347 : (Cond.code ⟨"LathePieces", "tool", "(I)I"⟩ prog_1_method_8_code 2 (Option.some FieldType.int)) ∈ GW := gw_2 (List.mem_of_getElem? (i := 107) rfl) rfl
theorem g_348 : (Cond.stringRef "LathePieces" 113 "no room for a tool") ∈ lw_tbl := tb_2 (List.mem_of_getElem? (i := 108) rfl)
theorem g_349 : (Cond.instantiable "LathePieces$Nose" 1) ∈ GW := gw_2 (List.mem_of_getElem? (i := 109) rfl) rfl
theorem g_350 : (Cond.methodLink "LathePieces" 115 ⟨"LathePieces$Nose", "<init>", "(I)V"⟩) ∈ GW := gw_2 (List.mem_of_getElem? (i := 110) rfl) rfl
theorem g_351 : (Cond.instanceMethod ⟨"LathePieces$Nose", "<init>", "(I)V"⟩) ∈ GW := gw_2 (List.mem_of_getElem? (i := 111) rfl) rfl
theorem g_352 : (Cond.code ⟨"LathePieces$Nose", "<init>", "(I)V"⟩ prog_2_method_1_code 3 (Option.none : Option FieldType)) ∈ GW := gw_2 (List.mem_of_getElem? (i := 112) rfl) rfl
theorem g_353 : (Cond.methodLink "LathePieces$Nose" 1 ⟨"java/lang/Object", "<init>", "()V"⟩) ∈ GW := gw_2 (List.mem_of_getElem? (i := 113) rfl) rfl
theorem g_354 : (Cond.methodLinkNest "LathePieces$Nose" 13 ⟨"LathePieces", "wholeRoot", "(I)I"⟩ "LathePieces") ∈ lw_tbl := tb_2 (List.mem_of_getElem? (i := 114) rfl)
theorem g_355 : (Cond.fieldLink "LathePieces$Nose" 7 "LathePieces$Nose" "heights" "[I") ∈ GW := gw_2 (List.mem_of_getElem? (i := 115) rfl) rfl
theorem g_356 : (Cond.fieldLink "LathePieces" 249 "LathePieces$Nose" "heights" "[I") ∈ GW := gw_2 (List.mem_of_getElem? (i := 116) rfl) rfl
theorem g_357 : (Cond.laysFinal "LathePieces$Nose" "LathePieces$Nose" "heights" "[I") ∈ GW := gw_2 (List.mem_of_getElem? (i := 117) rfl) rfl
theorem g_358 : (Cond.soleField "LathePieces$Nose" "heights") ∈ GW := gw_2 (List.mem_of_getElem? (i := 118) rfl) rfl
theorem g_359 : (Cond.superclass "LathePieces$Nose" "java/lang/Object") ∈ GW := gw_2 (List.mem_of_getElem? (i := 119) rfl) rfl
theorem g_360 : (Cond.methodLink "LathePiecesLaw" 138 ⟨"LathePiecesLaw", "reached", "(LLathePieces;III[J)I"⟩) ∈ GW := gw_2 (List.mem_of_getElem? (i := 120) rfl) rfl
theorem g_361 : (Cond.static ⟨"LathePiecesLaw", "reached", "(LLathePieces;III[J)I"⟩) ∈ GW := gw_2 (List.mem_of_getElem? (i := 121) rfl) rfl
theorem g_362 : (Cond.codeWith ⟨"LathePiecesLaw", "reached", "(LLathePieces;III[J)I"⟩ method_10_code 6 (Option.some FieldType.int) [(0, 12, 15, 32)]) ∈ GW := gw_2 (List.mem_of_getElem? (i := 122) rfl) rfl
theorem g_363 : (Cond.methodLink "LathePiecesLaw" 41 ⟨"LathePieces", "reached", "(III)I"⟩) ∈ GW := gw_2 (List.mem_of_getElem? (i := 123) rfl) rfl
theorem g_364 : (Cond.instanceMethod ⟨"LathePieces", "reached", "(III)I"⟩) ∈ GW := gw_2 (List.mem_of_getElem? (i := 124) rfl) rfl
theorem g_365 : (Cond.selects "LathePieces" ⟨"LathePieces", "reached", "(III)I"⟩ ⟨"LathePieces", "reached", "(III)I"⟩) ∈ GW := gw_2 (List.mem_of_getElem? (i := 125) rfl) rfl
theorem g_366 : (Cond.code ⟨"LathePieces", "reached", "(III)I"⟩ prog_1_method_9_code 5 (Option.some FieldType.int)) ∈ GW := gw_2 (List.mem_of_getElem? (i := 126) rfl) rfl
theorem g_367 : (Cond.methodLink "LathePieces" 117 ⟨"LathePieces", "reachOf", "(II)LLathePieces$Reach;"⟩) ∈ GW := gw_2 (List.mem_of_getElem? (i := 127) rfl) rfl
theorem g_368 : (Cond.privateMethod ⟨"LathePieces", "reachOf", "(II)LLathePieces$Reach;"⟩) ∈ lw_tbl := tb_2 (List.mem_of_getElem? (i := 128) rfl)
theorem g_369 : (Cond.instanceMethod ⟨"LathePieces", "reachOf", "(II)LLathePieces$Reach;"⟩) ∈ GW := gw_2 (List.mem_of_getElem? (i := 129) rfl) rfl
theorem g_370 : (Cond.code ⟨"LathePieces", "reachOf", "(II)LLathePieces$Reach;"⟩ prog_1_method_31_code 7 (Option.some (FieldType.object "LathePieces$Reach"))) ∈ GW := gw_2 (List.mem_of_getElem? (i := 130) rfl) rfl
theorem g_371 : (Cond.methodLink "LathePieces" 245 ⟨"LathePieces", "noseAt", "(I)LLathePieces$Nose;"⟩) ∈ GW := gw_2 (List.mem_of_getElem? (i := 131) rfl) rfl
theorem g_372 : (Cond.privateMethod ⟨"LathePieces", "noseAt", "(I)LLathePieces$Nose;"⟩) ∈ lw_tbl := tb_2 (List.mem_of_getElem? (i := 132) rfl)
theorem g_373 : (Cond.instanceMethod ⟨"LathePieces", "noseAt", "(I)LLathePieces$Nose;"⟩) ∈ GW := gw_2 (List.mem_of_getElem? (i := 133) rfl) rfl
theorem g_374 : (Cond.code ⟨"LathePieces", "noseAt", "(I)LLathePieces$Nose;"⟩ prog_1_method_28_code 3 (Option.some (FieldType.object "LathePieces$Nose"))) ∈ GW := gw_2 (List.mem_of_getElem? (i := 134) rfl) rfl
theorem g_375 : (Cond.stringRef "LathePieces" 241 "no such tool") ∈ lw_tbl := tb_2 (List.mem_of_getElem? (i := 135) rfl)
theorem g_376 : (Cond.instantiable "LathePieces$Reach" 1) ∈ GW := gw_2 (List.mem_of_getElem? (i := 136) rfl) rfl
theorem g_377 : (Cond.methodLink "LathePieces" 252 ⟨"LathePieces$Reach", "<init>", "([I[I)V"⟩) ∈ GW := gw_2 (List.mem_of_getElem? (i := 137) rfl) rfl
theorem g_378 : (Cond.instanceMethod ⟨"LathePieces$Reach", "<init>", "([I[I)V"⟩) ∈ GW := gw_2 (List.mem_of_getElem? (i := 138) rfl) rfl
theorem g_379 : (Cond.code ⟨"LathePieces$Reach", "<init>", "([I[I)V"⟩ prog_5_method_1_code 5 (Option.none : Option FieldType)) ∈ GW := gw_2 (List.mem_of_getElem? (i := 139) rfl) rfl
theorem g_380 : (Cond.methodLink "LathePieces$Reach" 1 ⟨"java/lang/Object", "<init>", "()V"⟩) ∈ GW := gw_2 (List.mem_of_getElem? (i := 140) rfl) rfl
theorem g_381 : (Cond.methodLink "LathePieces$Reach" 7 ⟨"LathePieces$Reach", "liftAt", "([I[II)I"⟩) ∈ GW := gw_2 (List.mem_of_getElem? (i := 141) rfl) rfl
theorem g_382 : (Cond.static ⟨"LathePieces$Reach", "liftAt", "([I[II)I"⟩) ∈ GW := gw_2 (List.mem_of_getElem? (i := 142) rfl) rfl
theorem g_383 : (Cond.code ⟨"LathePieces$Reach", "liftAt", "([I[II)I"⟩ prog_5_method_2_code 7 (Option.some FieldType.int)) ∈ GW := gw_2 (List.mem_of_getElem? (i := 143) rfl) rfl
theorem g_384 : (Cond.methodLink "LathePieces$Reach" 20 ⟨"java/lang/Math", "min", "(II)I"⟩) ∈ GW := gw_2 (List.mem_of_getElem? (i := 144) rfl) rfl
theorem g_385 : (Cond.methodLink "LathePieces$Reach" 26 ⟨"java/lang/Math", "max", "(II)I"⟩) ∈ GW := gw_2 (List.mem_of_getElem? (i := 145) rfl) rfl
theorem g_386 : (Cond.methodLink "LathePieces$Reach" 29 ⟨"java/lang/Math", "abs", "(I)I"⟩) ∈ GW := gw_2 (List.mem_of_getElem? (i := 146) rfl) rfl
theorem g_387 : (Cond.static ⟨"java/lang/Math", "abs", "(I)I"⟩) ∈ GW := gw_2 (List.mem_of_getElem? (i := 147) rfl) rfl
theorem g_388 : (Cond.code ⟨"java/lang/Math", "abs", "(I)I"⟩ prog_14_method_59_code 1 (Option.some FieldType.int)) ∈ GW := gw_2 (List.mem_of_getElem? (i := 148) rfl) rfl
theorem g_389 : (Cond.methodLink "LathePieces$Reach" 17 ⟨"LathePieces$Reach", "lowAt", "([I[II)I"⟩) ∈ GW := gw_2 (List.mem_of_getElem? (i := 149) rfl) rfl
theorem g_390 : (Cond.static ⟨"LathePieces$Reach", "lowAt", "([I[II)I"⟩) ∈ GW := gw_2 (List.mem_of_getElem? (i := 150) rfl) rfl
theorem g_391 : (Cond.code ⟨"LathePieces$Reach", "lowAt", "([I[II)I"⟩ prog_5_method_3_code 7 (Option.some FieldType.int)) ∈ GW := gw_2 (List.mem_of_getElem? (i := 151) rfl) rfl
theorem g_392 : (Cond.constant "LathePieces$Reach" 35 (2147483647 : Int32)) ∈ GW := gw_2 (List.mem_of_getElem? (i := 152) rfl) rfl
theorem g_393 : (Cond.fieldLink "LathePieces$Reach" 13 "LathePieces$Reach" "lows" "[I") ∈ GW := gw_2 (List.mem_of_getElem? (i := 153) rfl) rfl
theorem g_394 : (Cond.fieldLink "LathePieces" 121 "LathePieces$Reach" "lows" "[I") ∈ GW := gw_2 (List.mem_of_getElem? (i := 154) rfl) rfl
theorem g_395 : (Cond.laysFinal "LathePieces$Reach" "LathePieces$Reach" "lows" "[I") ∈ GW := gw_2 (List.mem_of_getElem? (i := 155) rfl) rfl
theorem g_396 : (Cond.soleField "LathePieces$Reach" "lows") ∈ GW := gw_2 (List.mem_of_getElem? (i := 156) rfl) rfl
theorem g_397 : (Cond.superclass "LathePieces$Reach" "java/lang/Object") ∈ GW := gw_2 (List.mem_of_getElem? (i := 157) rfl) rfl
theorem g_398 : (Cond.methodLink "LathePiecesLaw" 142 ⟨"LathePiecesLaw", "left", "(LLathePieces;II[J)I"⟩) ∈ GW := gw_2 (List.mem_of_getElem? (i := 158) rfl) rfl
theorem g_399 : (Cond.static ⟨"LathePiecesLaw", "left", "(LLathePieces;II[J)I"⟩) ∈ GW := gw_2 (List.mem_of_getElem? (i := 159) rfl) rfl
theorem g_400 : (Cond.codeWith ⟨"LathePiecesLaw", "left", "(LLathePieces;II[J)I"⟩ method_11_code 5 (Option.some FieldType.int) [(0, 10, 13, 32)]) ∈ GW := gw_2 (List.mem_of_getElem? (i := 160) rfl) rfl
theorem g_401 : (Cond.methodLink "LathePiecesLaw" 45 ⟨"LathePieces", "left", "(II)I"⟩) ∈ GW := gw_2 (List.mem_of_getElem? (i := 161) rfl) rfl
theorem g_402 : (Cond.instanceMethod ⟨"LathePieces", "left", "(II)I"⟩) ∈ GW := gw_2 (List.mem_of_getElem? (i := 162) rfl) rfl
theorem g_403 : (Cond.selects "LathePieces" ⟨"LathePieces", "left", "(II)I"⟩ ⟨"LathePieces", "left", "(II)I"⟩) ∈ GW := gw_2 (List.mem_of_getElem? (i := 163) rfl) rfl
theorem g_404 : (Cond.code ⟨"LathePieces", "left", "(II)I"⟩ prog_1_method_10_code 3 (Option.some FieldType.int)) ∈ GW := gw_2 (List.mem_of_getElem? (i := 164) rfl) rfl
theorem g_405 : (Cond.methodLink "LathePieces" 129 ⟨"LathePieces$Reach", "placesAbove", "([I)I"⟩) ∈ GW := gw_2 (List.mem_of_getElem? (i := 165) rfl) rfl
theorem g_406 : (Cond.instanceMethod ⟨"LathePieces$Reach", "placesAbove", "([I)I"⟩) ∈ GW := gw_2 (List.mem_of_getElem? (i := 166) rfl) rfl
theorem g_407 : (Cond.selects "LathePieces$Reach" ⟨"LathePieces$Reach", "placesAbove", "([I)I"⟩ ⟨"LathePieces$Reach", "placesAbove", "([I)I"⟩) ∈ GW := gw_2 (List.mem_of_getElem? (i := 167) rfl) rfl
theorem g_408 : (Cond.code ⟨"LathePieces$Reach", "placesAbove", "([I)I"⟩ prog_5_method_4_code 4 (Option.some FieldType.int)) ∈ GW := gw_2 (List.mem_of_getElem? (i := 168) rfl) rfl
theorem g_409 : (Cond.methodLink "LathePiecesLaw" 145 ⟨"LathePiecesLaw", "passes", "(LLathePieces;IIII[J)I"⟩) ∈ GW := gw_2 (List.mem_of_getElem? (i := 169) rfl) rfl
theorem g_410 : (Cond.static ⟨"LathePiecesLaw", "passes", "(LLathePieces;IIII[J)I"⟩) ∈ GW := gw_2 (List.mem_of_getElem? (i := 170) rfl) rfl
theorem g_411 : (Cond.codeWith ⟨"LathePiecesLaw", "passes", "(LLathePieces;IIII[J)I"⟩ method_12_code 7 (Option.some FieldType.int) [(0, 14, 17, 32), (0, 14, 21, 13)]) ∈ GW := gw_2 (List.mem_of_getElem? (i := 171) rfl) rfl
theorem g_412 : (Cond.methodLink "LathePiecesLaw" 48 ⟨"LathePieces", "passes", "(IIII)I"⟩) ∈ GW := gw_2 (List.mem_of_getElem? (i := 172) rfl) rfl
theorem g_413 : (Cond.instanceMethod ⟨"LathePieces", "passes", "(IIII)I"⟩) ∈ GW := gw_2 (List.mem_of_getElem? (i := 173) rfl) rfl
theorem g_414 : (Cond.selects "LathePieces" ⟨"LathePieces", "passes", "(IIII)I"⟩ ⟨"LathePieces", "passes", "(IIII)I"⟩) ∈ GW := gw_2 (List.mem_of_getElem? (i := 174) rfl) rfl
theorem g_415 : (Cond.code ⟨"LathePieces", "passes", "(IIII)I"⟩ prog_1_method_11_code 6 (Option.some FieldType.int)) ∈ GW := gw_2 (List.mem_of_getElem? (i := 175) rfl) rfl
theorem g_416 : (Cond.methodLink "LathePieces" 133 ⟨"LathePieces", "checkRough", "(II)V"⟩) ∈ GW := gw_2 (List.mem_of_getElem? (i := 176) rfl) rfl
theorem g_417 : (Cond.static ⟨"LathePieces", "checkRough", "(II)V"⟩) ∈ GW := gw_2 (List.mem_of_getElem? (i := 177) rfl) rfl
theorem g_418 : (Cond.code ⟨"LathePieces", "checkRough", "(II)V"⟩ prog_1_method_34_code 2 (Option.none : Option FieldType)) ∈ GW := gw_2 (List.mem_of_getElem? (i := 178) rfl) rfl
theorem g_419 : (Cond.methodLink "LathePieces" 136 ⟨"LathePieces$Reach", "passCount", "(III)I"⟩) ∈ GW := gw_2 (List.mem_of_getElem? (i := 179) rfl) rfl
theorem g_420 : (Cond.instanceMethod ⟨"LathePieces$Reach", "passCount", "(III)I"⟩) ∈ GW := gw_2 (List.mem_of_getElem? (i := 180) rfl) rfl
theorem g_421 : (Cond.selects "LathePieces$Reach" ⟨"LathePieces$Reach", "passCount", "(III)I"⟩ ⟨"LathePieces$Reach", "passCount", "(III)I"⟩) ∈ GW := gw_2 (List.mem_of_getElem? (i := 181) rfl) rfl
theorem g_422 : (Cond.code ⟨"LathePieces$Reach", "passCount", "(III)I"⟩ prog_5_method_6_code 6 (Option.some FieldType.int)) ∈ GW := gw_2 (List.mem_of_getElem? (i := 182) rfl) rfl
theorem g_423 : (Cond.methodLink "LathePieces$Reach" 36 ⟨"LathePieces$Reach", "wantedAt", "(III)I"⟩) ∈ GW := gw_2 (List.mem_of_getElem? (i := 183) rfl) rfl
theorem g_424 : (Cond.instanceMethod ⟨"LathePieces$Reach", "wantedAt", "(III)I"⟩) ∈ GW := gw_2 (List.mem_of_getElem? (i := 184) rfl) rfl
theorem g_425 : (Cond.selects "LathePieces$Reach" ⟨"LathePieces$Reach", "wantedAt", "(III)I"⟩ ⟨"LathePieces$Reach", "wantedAt", "(III)I"⟩) ∈ GW := gw_2 (List.mem_of_getElem? (i := 185) rfl) rfl
theorem g_426 : (Cond.code ⟨"LathePieces$Reach", "wantedAt", "(III)I"⟩ prog_5_method_7_code 4 (Option.some FieldType.int)) ∈ GW := gw_2 (List.mem_of_getElem? (i := 186) rfl) rfl
theorem g_427 : (Cond.methodLink "LathePiecesLaw" 149 ⟨"LathePiecesLaw", "cut", "(LLathePieces;IIIII[J)I"⟩) ∈ GW := gw_2 (List.mem_of_getElem? (i := 187) rfl) rfl
theorem g_428 : (Cond.static ⟨"LathePiecesLaw", "cut", "(LLathePieces;IIIII[J)I"⟩) ∈ GW := gw_2 (List.mem_of_getElem? (i := 188) rfl) rfl
theorem g_429 : (Cond.codeWith ⟨"LathePiecesLaw", "cut", "(LLathePieces;IIIII[J)I"⟩ method_13_code 8 (Option.some FieldType.int) [(0, 16, 19, 32), (0, 16, 23, 13)]) ∈ GW := gw_2 (List.mem_of_getElem? (i := 189) rfl) rfl
theorem g_430 : (Cond.methodLink "LathePiecesLaw" 52 ⟨"LathePieces", "cut", "(IIIII)I"⟩) ∈ GW := gw_2 (List.mem_of_getElem? (i := 190) rfl) rfl
theorem g_431 : (Cond.instanceMethod ⟨"LathePieces", "cut", "(IIIII)I"⟩) ∈ GW := gw_2 (List.mem_of_getElem? (i := 191) rfl) rfl
theorem g_432 : (Cond.selects "LathePieces" ⟨"LathePieces", "cut", "(IIIII)I"⟩ ⟨"LathePieces", "cut", "(IIIII)I"⟩) ∈ GW := gw_2 (List.mem_of_getElem? (i := 192) rfl) rfl
theorem g_433 : (Cond.code ⟨"LathePieces", "cut", "(IIIII)I"⟩ prog_1_method_12_code 8 (Option.some FieldType.int)) ∈ GW := gw_2 (List.mem_of_getElem? (i := 193) rfl) rfl
theorem g_434 : (Cond.constant "LathePieces" 142 (2147483647 : Int32)) ∈ GW := gw_2 (List.mem_of_getElem? (i := 194) rfl) rfl
theorem g_435 : (Cond.methodLink "LathePieces" 143 ⟨"LathePieces$Reach", "placesCut", "(IIJ)I"⟩) ∈ GW := gw_2 (List.mem_of_getElem? (i := 195) rfl) rfl
theorem g_436 : (Cond.instanceMethod ⟨"LathePieces$Reach", "placesCut", "(IIJ)I"⟩) ∈ GW := gw_2 (List.mem_of_getElem? (i := 196) rfl) rfl
theorem g_437 : (Cond.selects "LathePieces$Reach" ⟨"LathePieces$Reach", "placesCut", "(IIJ)I"⟩ ⟨"LathePieces$Reach", "placesCut", "(IIJ)I"⟩) ∈ GW := gw_2 (List.mem_of_getElem? (i := 197) rfl) rfl
theorem g_438 : (Cond.code ⟨"LathePieces$Reach", "placesCut", "(IIJ)I"⟩ prog_5_method_5_code 7 (Option.some FieldType.int)) ∈ GW := gw_2 (List.mem_of_getElem? (i := 198) rfl) rfl
theorem g_439 : (Cond.methodLink "LathePiecesLaw" 153 ⟨"LathePiecesLaw", "steady", "(LLathePieces;III[J)I"⟩) ∈ GW := gw_2 (List.mem_of_getElem? (i := 199) rfl) rfl
theorem g_440 : (Cond.static ⟨"LathePiecesLaw", "steady", "(LLathePieces;III[J)I"⟩) ∈ GW := gw_2 (List.mem_of_getElem? (i := 200) rfl) rfl
theorem g_441 : (Cond.codeWith ⟨"LathePiecesLaw", "steady", "(LLathePieces;III[J)I"⟩ method_14_code 6 (Option.some FieldType.int) [(0, 12, 15, 32), (0, 12, 19, 13), (0, 12, 23, 19)]) ∈ GW := gw_2 (List.mem_of_getElem? (i := 201) rfl) rfl
theorem g_442 : (Cond.methodLink "LathePiecesLaw" 56 ⟨"LathePieces", "steady", "(III)I"⟩) ∈ GW := gw_2 (List.mem_of_getElem? (i := 202) rfl) rfl
theorem g_443 : (Cond.instanceMethod ⟨"LathePieces", "steady", "(III)I"⟩) ∈ GW := gw_2 (List.mem_of_getElem? (i := 203) rfl) rfl
theorem g_444 : (Cond.selects "LathePieces" ⟨"LathePieces", "steady", "(III)I"⟩ ⟨"LathePieces", "steady", "(III)I"⟩) ∈ GW := gw_2 (List.mem_of_getElem? (i := 204) rfl) rfl
theorem g_445 : (Cond.code ⟨"LathePieces", "steady", "(III)I"⟩ prog_1_method_13_code 8 (Option.some FieldType.int)) ∈ GW := gw_2 (List.mem_of_getElem? (i := 205) rfl) rfl
theorem g_446 : (Cond.methodLink "LathePieces" 147 ⟨"java/lang/Math", "min", "(II)I"⟩) ∈ GW := gw_2 (List.mem_of_getElem? (i := 206) rfl) rfl
theorem g_447 : (Cond.methodLink "LathePieces" 152 ⟨"LathePieces$Piece", "heldBehind", "(II)I"⟩) ∈ GW := gw_2 (List.mem_of_getElem? (i := 207) rfl) rfl
theorem g_448 : (Cond.instanceMethod ⟨"LathePieces$Piece", "heldBehind", "(II)I"⟩) ∈ GW := gw_2 (List.mem_of_getElem? (i := 208) rfl) rfl
theorem g_449 : (Cond.selects "LathePieces$Piece" ⟨"LathePieces$Piece", "heldBehind", "(II)I"⟩ ⟨"LathePieces$Piece", "heldBehind", "(II)I"⟩) ∈ GW := gw_2 (List.mem_of_getElem? (i := 209) rfl) rfl
theorem g_450 : (Cond.code ⟨"LathePieces$Piece", "heldBehind", "(II)I"⟩ prog_3_method_2_code 6 (Option.some FieldType.int)) ∈ GW := gw_2 (List.mem_of_getElem? (i := 210) rfl) rfl
theorem g_451 : (Cond.methodLink "LathePieces$Piece" 44 ⟨"java/lang/Math", "min", "(II)I"⟩) ∈ GW := gw_2 (List.mem_of_getElem? (i := 211) rfl) rfl
theorem g_452 : (Cond.stringRef "LathePieces" 155 "not so many steadies") ∈ lw_tbl := tb_2 (List.mem_of_getElem? (i := 212) rfl)
theorem g_453 : (Cond.methodLink "LathePiecesLaw" 156 ⟨"LathePiecesLaw", "volume", "(LLathePieces;IZ[J)I"⟩) ∈ GW := gw_2 (List.mem_of_getElem? (i := 213) rfl) rfl
theorem g_454 : (Cond.static ⟨"LathePiecesLaw", "volume", "(LLathePieces;IZ[J)I"⟩) ∈ GW := gw_2 (List.mem_of_getElem? (i := 214) rfl) rfl
theorem g_455 : (Cond.codeWith ⟨"LathePiecesLaw", "volume", "(LLathePieces;IZ[J)I"⟩ method_15_code 5 (Option.some FieldType.int) [(0, 9, 12, 32)]) ∈ GW := gw_2 (List.mem_of_getElem? (i := 215) rfl) rfl
theorem g_456 : (Cond.methodLink "LathePiecesLaw" 59 ⟨"LathePieces", "volume", "(IZ)J"⟩) ∈ GW := gw_2 (List.mem_of_getElem? (i := 216) rfl) rfl
theorem g_457 : (Cond.instanceMethod ⟨"LathePieces", "volume", "(IZ)J"⟩) ∈ GW := gw_2 (List.mem_of_getElem? (i := 217) rfl) rfl
theorem g_458 : (Cond.selects "LathePieces" ⟨"LathePieces", "volume", "(IZ)J"⟩ ⟨"LathePieces", "volume", "(IZ)J"⟩) ∈ GW := gw_2 (List.mem_of_getElem? (i := 218) rfl) rfl
theorem g_459 : (Cond.code ⟨"LathePieces", "volume", "(IZ)J"⟩ prog_1_method_14_code 5 (Option.some FieldType.long)) ∈ GW := gw_2 (List.mem_of_getElem? (i := 219) rfl) rfl
theorem g_460 : (Cond.methodLink "LathePieces" 157 ⟨"LathePieces$Piece", "sumOfSquares", "(Z)J"⟩) ∈ GW := gw_2 (List.mem_of_getElem? (i := 220) rfl) rfl
theorem g_461 : (Cond.instanceMethod ⟨"LathePieces$Piece", "sumOfSquares", "(Z)J"⟩) ∈ GW := gw_2 (List.mem_of_getElem? (i := 221) rfl) rfl
theorem g_462 : (Cond.selects "LathePieces$Piece" ⟨"LathePieces$Piece", "sumOfSquares", "(Z)J"⟩ ⟨"LathePieces$Piece", "sumOfSquares", "(Z)J"⟩) ∈ GW := gw_2 (List.mem_of_getElem? (i := 222) rfl) rfl
theorem g_463 : (Cond.code ⟨"LathePieces$Piece", "sumOfSquares", "(Z)J"⟩ prog_3_method_3_code 7 (Option.some FieldType.long)) ∈ GW := gw_2 (List.mem_of_getElem? (i := 223) rfl) rfl
theorem g_464 : (Cond.constantLong "LathePieces" 161 (314160 : Int64)) ∈ GW := gw_2 (List.mem_of_getElem? (i := 224) rfl) rfl
theorem g_465 : (Cond.constantLong "LathePieces" 163 (100000 : Int64)) ∈ GW := gw_2 (List.mem_of_getElem? (i := 225) rfl) rfl
theorem g_466 : (Cond.constantLong "LathePieces" 165 (314159 : Int64)) ∈ GW := gw_2 (List.mem_of_getElem? (i := 226) rfl) rfl
theorem g_467 : (Cond.methodLink "LathePiecesLaw" 160 ⟨"LathePiecesLaw", "hollow", "(LLathePieces;III[J)I"⟩) ∈ GW := gw_2 (List.mem_of_getElem? (i := 227) rfl) rfl
theorem g_468 : (Cond.static ⟨"LathePiecesLaw", "hollow", "(LLathePieces;III[J)I"⟩) ∈ GW := gw_2 (List.mem_of_getElem? (i := 228) rfl) rfl
theorem g_469 : (Cond.codeWith ⟨"LathePiecesLaw", "hollow", "(LLathePieces;III[J)I"⟩ method_16_code 6 (Option.some FieldType.int) [(0, 12, 15, 32), (0, 12, 19, 13)]) ∈ GW := gw_2 (List.mem_of_getElem? (i := 229) rfl) rfl
theorem g_470 : (Cond.methodLink "LathePiecesLaw" 63 ⟨"LathePieces", "hollow", "(III)I"⟩) ∈ GW := gw_2 (List.mem_of_getElem? (i := 230) rfl) rfl
theorem g_471 : (Cond.instanceMethod ⟨"LathePieces", "hollow", "(III)I"⟩) ∈ GW := gw_2 (List.mem_of_getElem? (i := 231) rfl) rfl
theorem g_472 : (Cond.selects "LathePieces" ⟨"LathePieces", "hollow", "(III)I"⟩ ⟨"LathePieces", "hollow", "(III)I"⟩) ∈ GW := gw_2 (List.mem_of_getElem? (i := 232) rfl) rfl
theorem g_473 : (Cond.code ⟨"LathePieces", "hollow", "(III)I"⟩ prog_1_method_15_code 5 (Option.some FieldType.int)) ∈ GW := gw_2 (List.mem_of_getElem? (i := 233) rfl) rfl
theorem g_474 : (Cond.methodLink "LathePieces" 167 ⟨"LathePieces$Piece", "lastPlacesFrom", "(I)I"⟩) ∈ GW := gw_2 (List.mem_of_getElem? (i := 234) rfl) rfl
theorem g_475 : (Cond.instanceMethod ⟨"LathePieces$Piece", "lastPlacesFrom", "(I)I"⟩) ∈ GW := gw_2 (List.mem_of_getElem? (i := 235) rfl) rfl
theorem g_476 : (Cond.selects "LathePieces$Piece" ⟨"LathePieces$Piece", "lastPlacesFrom", "(I)I"⟩ ⟨"LathePieces$Piece", "lastPlacesFrom", "(I)I"⟩) ∈ GW := gw_2 (List.mem_of_getElem? (i := 236) rfl) rfl
theorem g_477 : (Cond.code ⟨"LathePieces$Piece", "lastPlacesFrom", "(I)I"⟩ prog_3_method_4_code 4 (Option.some FieldType.int)) ∈ GW := gw_2 (List.mem_of_getElem? (i := 237) rfl) rfl
theorem g_478 : (Cond.methodLink "LathePiecesLaw" 163 ⟨"LathePiecesLaw", "copy", "(LLathePieces;II[J)I"⟩) ∈ GW := gw_2 (List.mem_of_getElem? (i := 238) rfl) rfl
theorem g_479 : (Cond.static ⟨"LathePiecesLaw", "copy", "(LLathePieces;II[J)I"⟩) ∈ GW := gw_2 (List.mem_of_getElem? (i := 239) rfl) rfl
theorem g_480 : (Cond.codeWith ⟨"LathePiecesLaw", "copy", "(LLathePieces;II[J)I"⟩ method_17_code 5 (Option.some FieldType.int) [(0, 10, 13, 32)]) ∈ GW := gw_3 (List.mem_of_getElem? (i := 0) rfl) rfl
theorem g_481 : (Cond.methodLink "LathePiecesLaw" 66 ⟨"LathePieces", "copy", "(II)I"⟩) ∈ GW := gw_3 (List.mem_of_getElem? (i := 1) rfl) rfl
theorem g_482 : (Cond.instanceMethod ⟨"LathePieces", "copy", "(II)I"⟩) ∈ GW := gw_3 (List.mem_of_getElem? (i := 2) rfl) rfl
theorem g_483 : (Cond.selects "LathePieces" ⟨"LathePieces", "copy", "(II)I"⟩ ⟨"LathePieces", "copy", "(II)I"⟩) ∈ GW := gw_3 (List.mem_of_getElem? (i := 3) rfl) rfl
theorem g_484 : (Cond.code ⟨"LathePieces", "copy", "(II)I"⟩ prog_1_method_16_code 3 (Option.some FieldType.int)) ∈ GW := gw_3 (List.mem_of_getElem? (i := 4) rfl) rfl
theorem g_485 : (Cond.methodLink "LathePieces" 171 ⟨"LathePieces$Piece", "greatestDifference", "(LLathePieces$Piece;)I"⟩) ∈ GW := gw_3 (List.mem_of_getElem? (i := 5) rfl) rfl
theorem g_486 : (Cond.instanceMethod ⟨"LathePieces$Piece", "greatestDifference", "(LLathePieces$Piece;)I"⟩) ∈ GW := gw_3 (List.mem_of_getElem? (i := 6) rfl) rfl
theorem g_487 : (Cond.selects "LathePieces$Piece" ⟨"LathePieces$Piece", "greatestDifference", "(LLathePieces$Piece;)I"⟩ ⟨"LathePieces$Piece", "greatestDifference", "(LLathePieces$Piece;)I"⟩) ∈ GW := gw_3 (List.mem_of_getElem? (i := 7) rfl) rfl
theorem g_488 : (Cond.code ⟨"LathePieces$Piece", "greatestDifference", "(LLathePieces$Piece;)I"⟩ prog_3_method_5_code 4 (Option.some FieldType.int)) ∈ GW := gw_3 (List.mem_of_getElem? (i := 8) rfl) rfl
theorem g_489 : (Cond.methodLink "LathePieces$Piece" 47 ⟨"java/lang/Math", "abs", "(I)I"⟩) ∈ GW := gw_3 (List.mem_of_getElem? (i := 9) rfl) rfl
theorem g_490 : (Cond.methodLink "LathePiecesLaw" 166 ⟨"LathePiecesLaw", "ring", "(LLathePieces;[J)I"⟩) ∈ GW := gw_3 (List.mem_of_getElem? (i := 10) rfl) rfl
theorem g_491 : (Cond.static ⟨"LathePiecesLaw", "ring", "(LLathePieces;[J)I"⟩) ∈ GW := gw_3 (List.mem_of_getElem? (i := 11) rfl) rfl
theorem g_492 : (Cond.codeWith ⟨"LathePiecesLaw", "ring", "(LLathePieces;[J)I"⟩ method_18_code 3 (Option.some FieldType.int) [(0, 8, 11, 19)]) ∈ GW := gw_3 (List.mem_of_getElem? (i := 12) rfl) rfl
theorem g_493 : (Cond.methodLink "LathePiecesLaw" 69 ⟨"LathePieces", "ring", "()I"⟩) ∈ GW := gw_3 (List.mem_of_getElem? (i := 13) rfl) rfl
theorem g_494 : (Cond.instanceMethod ⟨"LathePieces", "ring", "()I"⟩) ∈ GW := gw_3 (List.mem_of_getElem? (i := 14) rfl) rfl
theorem g_495 : (Cond.selects "LathePieces" ⟨"LathePieces", "ring", "()I"⟩ ⟨"LathePieces", "ring", "()I"⟩) ∈ GW := gw_3 (List.mem_of_getElem? (i := 15) rfl) rfl
theorem g_496 : (Cond.code ⟨"LathePieces", "ring", "()I"⟩ prog_1_method_17_code 1 (Option.some FieldType.int)) ∈ GW := gw_3 (List.mem_of_getElem? (i := 16) rfl) rfl
theorem g_497 : (Cond.stringRef "LathePieces" 178 "no room for a ring") ∈ lw_tbl := tb_3 (List.mem_of_getElem? (i := 17) rfl)
theorem g_498 : (Cond.instantiable "LathePieces$Ring" 4) ∈ GW := gw_3 (List.mem_of_getElem? (i := 18) rfl) rfl
theorem g_499 : (Cond.methodLinkNest "LathePieces" 180 ⟨"LathePieces$Ring", "<init>", "()V"⟩ "LathePieces") ∈ lw_tbl := tb_3 (List.mem_of_getElem? (i := 19) rfl)
theorem g_500 : (Cond.instanceMethod ⟨"LathePieces$Ring", "<init>", "()V"⟩) ∈ GW := gw_3 (List.mem_of_getElem? (i := 20) rfl) rfl
theorem g_501 : (Cond.code ⟨"LathePieces$Ring", "<init>", "()V"⟩ prog_6_method_1_code 1 (Option.none : Option FieldType)) ∈ GW := gw_3 (List.mem_of_getElem? (i := 21) rfl) rfl
theorem g_502 : (Cond.methodLink "LathePieces$Ring" 3 ⟨"java/lang/Object", "<init>", "()V"⟩) ∈ GW := gw_3 (List.mem_of_getElem? (i := 22) rfl) rfl
theorem g_503 : (Cond.fieldLink "LathePieces$Ring" 9 "LathePieces$Ring" "aboves" "[I") ∈ GW := gw_3 (List.mem_of_getElem? (i := 23) rfl) rfl
theorem g_504 : (Cond.fieldLink "LathePieces" 198 "LathePieces$Ring" "aboves" "[I") ∈ GW := gw_3 (List.mem_of_getElem? (i := 24) rfl) rfl
theorem g_505 : (Cond.fieldLink "LathePieces$Ring" 15 "LathePieces$Ring" "belows" "[I") ∈ GW := gw_3 (List.mem_of_getElem? (i := 25) rfl) rfl
theorem g_506 : (Cond.fieldLink "LathePieces" 203 "LathePieces$Ring" "belows" "[I") ∈ GW := gw_3 (List.mem_of_getElem? (i := 26) rfl) rfl
theorem g_507 : (Cond.fieldLink "LathePieces$Ring" 18 "LathePieces$Ring" "count" "I") ∈ GW := gw_3 (List.mem_of_getElem? (i := 27) rfl) rfl
theorem g_508 : (Cond.fieldLink "LathePieces" 185 "LathePieces$Ring" "count" "I") ∈ GW := gw_3 (List.mem_of_getElem? (i := 28) rfl) rfl
theorem g_509 : (Cond.fieldLink "LathePieces$Ring" 22 "LathePieces$Ring" "sumParts" "J") ∈ GW := gw_3 (List.mem_of_getElem? (i := 29) rfl) rfl
theorem g_510 : (Cond.laysFinal "LathePieces$Ring" "LathePieces$Ring" "aboves" "[I") ∈ GW := gw_3 (List.mem_of_getElem? (i := 30) rfl) rfl
theorem g_511 : (Cond.soleField "LathePieces$Ring" "aboves") ∈ GW := gw_3 (List.mem_of_getElem? (i := 31) rfl) rfl
theorem g_512 : (Cond.laysFinal "LathePieces$Ring" "LathePieces$Ring" "belows" "[I") ∈ GW := gw_3 (List.mem_of_getElem? (i := 32) rfl) rfl
theorem g_513 : (Cond.soleField "LathePieces$Ring" "belows") ∈ GW := gw_3 (List.mem_of_getElem? (i := 33) rfl) rfl
theorem g_514 : (Cond.lays "LathePieces$Ring" "LathePieces$Ring" "count" "I") ∈ GW := gw_3 (List.mem_of_getElem? (i := 34) rfl) rfl
theorem g_515 : (Cond.soleField "LathePieces$Ring" "count") ∈ GW := gw_3 (List.mem_of_getElem? (i := 35) rfl) rfl
theorem g_516 : (Cond.lays "LathePieces$Ring" "LathePieces$Ring" "sumParts" "J") ∈ GW := gw_3 (List.mem_of_getElem? (i := 36) rfl) rfl
theorem g_517 : (Cond.soleField "LathePieces$Ring" "sumParts") ∈ GW := gw_3 (List.mem_of_getElem? (i := 37) rfl) rfl
theorem g_518 : (Cond.superclass "LathePieces$Ring" "java/lang/Object") ∈ GW := gw_3 (List.mem_of_getElem? (i := 38) rfl) rfl
theorem g_519 : (Cond.methodLink "LathePiecesLaw" 169 ⟨"LathePiecesLaw", "wedge", "(LLathePieces;III[J)I"⟩) ∈ GW := gw_3 (List.mem_of_getElem? (i := 39) rfl) rfl
theorem g_520 : (Cond.static ⟨"LathePiecesLaw", "wedge", "(LLathePieces;III[J)I"⟩) ∈ GW := gw_3 (List.mem_of_getElem? (i := 40) rfl) rfl
theorem g_521 : (Cond.codeWith ⟨"LathePiecesLaw", "wedge", "(LLathePieces;III[J)I"⟩ method_19_code 6 (Option.some FieldType.int) [(0, 12, 15, 32), (0, 12, 19, 13), (0, 12, 23, 19)]) ∈ GW := gw_3 (List.mem_of_getElem? (i := 41) rfl) rfl
theorem g_522 : (Cond.methodLink "LathePiecesLaw" 72 ⟨"LathePieces", "wedge", "(III)I"⟩) ∈ GW := gw_3 (List.mem_of_getElem? (i := 42) rfl) rfl
theorem g_523 : (Cond.instanceMethod ⟨"LathePieces", "wedge", "(III)I"⟩) ∈ GW := gw_3 (List.mem_of_getElem? (i := 43) rfl) rfl
theorem g_524 : (Cond.selects "LathePieces" ⟨"LathePieces", "wedge", "(III)I"⟩ ⟨"LathePieces", "wedge", "(III)I"⟩) ∈ GW := gw_3 (List.mem_of_getElem? (i := 44) rfl) rfl
theorem g_525 : (Cond.code ⟨"LathePieces", "wedge", "(III)I"⟩ prog_1_method_18_code 5 (Option.some FieldType.int)) ∈ GW := gw_3 (List.mem_of_getElem? (i := 45) rfl) rfl
theorem g_526 : (Cond.methodLink "LathePieces" 181 ⟨"LathePieces", "ringAt", "(I)LLathePieces$Ring;"⟩) ∈ GW := gw_3 (List.mem_of_getElem? (i := 46) rfl) rfl
theorem g_527 : (Cond.privateMethod ⟨"LathePieces", "ringAt", "(I)LLathePieces$Ring;"⟩) ∈ lw_tbl := tb_3 (List.mem_of_getElem? (i := 47) rfl)
theorem g_528 : (Cond.instanceMethod ⟨"LathePieces", "ringAt", "(I)LLathePieces$Ring;"⟩) ∈ GW := gw_3 (List.mem_of_getElem? (i := 48) rfl) rfl
theorem g_529 : (Cond.code ⟨"LathePieces", "ringAt", "(I)LLathePieces$Ring;"⟩ prog_1_method_29_code 3 (Option.some (FieldType.object "LathePieces$Ring"))) ∈ GW := gw_3 (List.mem_of_getElem? (i := 49) rfl) rfl
theorem g_530 : (Cond.stringRef "LathePieces" 243 "no such ring") ∈ lw_tbl := tb_3 (List.mem_of_getElem? (i := 50) rfl)
theorem g_531 : (Cond.stringRef "LathePieces" 188 "no room for a wedge") ∈ lw_tbl := tb_3 (List.mem_of_getElem? (i := 51) rfl)
theorem g_532 : (Cond.methodLink "LathePieces" 190 ⟨"LathePieces$Ring", "addWedge", "(II)V"⟩) ∈ GW := gw_3 (List.mem_of_getElem? (i := 52) rfl) rfl
theorem g_533 : (Cond.instanceMethod ⟨"LathePieces$Ring", "addWedge", "(II)V"⟩) ∈ GW := gw_3 (List.mem_of_getElem? (i := 53) rfl) rfl
theorem g_534 : (Cond.selects "LathePieces$Ring" ⟨"LathePieces$Ring", "addWedge", "(II)V"⟩ ⟨"LathePieces$Ring", "addWedge", "(II)V"⟩) ∈ GW := gw_3 (List.mem_of_getElem? (i := 54) rfl) rfl
theorem g_535 : (Cond.code ⟨"LathePieces$Ring", "addWedge", "(II)V"⟩ prog_6_method_2_code 3 (Option.none : Option FieldType)) ∈ GW := gw_3 (List.mem_of_getElem? (i := 55) rfl) rfl
theorem g_536 : (Cond.methodLink "LathePiecesLaw" 172 ⟨"LathePiecesLaw", "mitre", "(LLathePieces;III[J)I"⟩) ∈ GW := gw_3 (List.mem_of_getElem? (i := 56) rfl) rfl
theorem g_537 : (Cond.static ⟨"LathePiecesLaw", "mitre", "(LLathePieces;III[J)I"⟩) ∈ GW := gw_3 (List.mem_of_getElem? (i := 57) rfl) rfl
theorem g_538 : (Cond.codeWith ⟨"LathePiecesLaw", "mitre", "(LLathePieces;III[J)I"⟩ method_20_code 6 (Option.some FieldType.int) [(0, 11, 14, 32)]) ∈ GW := gw_3 (List.mem_of_getElem? (i := 58) rfl) rfl
theorem g_539 : (Cond.methodLink "LathePiecesLaw" 75 ⟨"LathePieces", "mitre", "(III)J"⟩) ∈ GW := gw_3 (List.mem_of_getElem? (i := 59) rfl) rfl
theorem g_540 : (Cond.instanceMethod ⟨"LathePieces", "mitre", "(III)J"⟩) ∈ GW := gw_3 (List.mem_of_getElem? (i := 60) rfl) rfl
theorem g_541 : (Cond.selects "LathePieces" ⟨"LathePieces", "mitre", "(III)J"⟩ ⟨"LathePieces", "mitre", "(III)J"⟩) ∈ GW := gw_3 (List.mem_of_getElem? (i := 61) rfl) rfl
theorem g_542 : (Cond.code ⟨"LathePieces", "mitre", "(III)J"⟩ prog_1_method_19_code 5 (Option.some FieldType.long)) ∈ GW := gw_3 (List.mem_of_getElem? (i := 62) rfl) rfl
theorem g_543 : (Cond.stringRef "LathePieces" 193 "no such wedge") ∈ lw_tbl := tb_3 (List.mem_of_getElem? (i := 63) rfl)
theorem g_544 : (Cond.methodLink "LathePieces" 195 ⟨"LathePieces", "checkPart", "(I)V"⟩) ∈ GW := gw_3 (List.mem_of_getElem? (i := 64) rfl) rfl
theorem g_545 : (Cond.static ⟨"LathePieces", "checkPart", "(I)V"⟩) ∈ GW := gw_3 (List.mem_of_getElem? (i := 65) rfl) rfl
theorem g_546 : (Cond.code ⟨"LathePieces", "checkPart", "(I)V"⟩ prog_1_method_36_code 1 (Option.none : Option FieldType)) ∈ GW := gw_3 (List.mem_of_getElem? (i := 66) rfl) rfl
theorem g_547 : (Cond.stringRef "LathePieces" 268 "no such part") ∈ lw_tbl := tb_3 (List.mem_of_getElem? (i := 67) rfl)
theorem g_548 : (Cond.constantLong "LathePieces" 201 (2 : Int64)) ∈ GW := gw_3 (List.mem_of_getElem? (i := 68) rfl) rfl
theorem g_549 : (Cond.methodLink "LathePieces" 206 ⟨"LathePieces", "fractionPart", "(JJI)J"⟩) ∈ GW := gw_3 (List.mem_of_getElem? (i := 69) rfl) rfl
theorem g_550 : (Cond.static ⟨"LathePieces", "fractionPart", "(JJI)J"⟩) ∈ GW := gw_3 (List.mem_of_getElem? (i := 70) rfl) rfl
theorem g_551 : (Cond.code ⟨"LathePieces", "fractionPart", "(JJI)J"⟩ prog_1_method_37_code 7 (Option.some FieldType.long)) ∈ GW := gw_3 (List.mem_of_getElem? (i := 71) rfl) rfl
theorem g_552 : (Cond.methodLink "LathePieces" 270 ⟨"java/lang/Math", "abs", "(J)J"⟩) ∈ GW := gw_3 (List.mem_of_getElem? (i := 72) rfl) rfl
theorem g_553 : (Cond.static ⟨"java/lang/Math", "abs", "(J)J"⟩) ∈ GW := gw_3 (List.mem_of_getElem? (i := 73) rfl) rfl
theorem g_554 : (Cond.code ⟨"java/lang/Math", "abs", "(J)J"⟩ prog_14_method_61_code 2 (Option.some FieldType.long)) ∈ GW := gw_3 (List.mem_of_getElem? (i := 74) rfl) rfl
theorem g_555 : (Cond.methodLink "LathePieces" 274 ⟨"LathePieces", "commonDivisor", "(JJ)J"⟩) ∈ GW := gw_3 (List.mem_of_getElem? (i := 75) rfl) rfl
theorem g_556 : (Cond.static ⟨"LathePieces", "commonDivisor", "(JJ)J"⟩) ∈ GW := gw_3 (List.mem_of_getElem? (i := 76) rfl) rfl
theorem g_557 : (Cond.code ⟨"LathePieces", "commonDivisor", "(JJ)J"⟩ prog_1_method_38_code 7 (Option.some FieldType.long)) ∈ GW := gw_3 (List.mem_of_getElem? (i := 77) rfl) rfl
theorem g_558 : (Cond.methodLink "LathePiecesLaw" 175 ⟨"LathePiecesLaw", "gap", "(LLathePieces;II[J)I"⟩) ∈ GW := gw_3 (List.mem_of_getElem? (i := 78) rfl) rfl
theorem g_559 : (Cond.static ⟨"LathePiecesLaw", "gap", "(LLathePieces;II[J)I"⟩) ∈ GW := gw_3 (List.mem_of_getElem? (i := 79) rfl) rfl
theorem g_560 : (Cond.codeWith ⟨"LathePiecesLaw", "gap", "(LLathePieces;II[J)I"⟩ method_21_code 5 (Option.some FieldType.int) [(0, 9, 12, 32)]) ∈ GW := gw_3 (List.mem_of_getElem? (i := 80) rfl) rfl
theorem g_561 : (Cond.methodLink "LathePiecesLaw" 79 ⟨"LathePieces", "gap", "(II)J"⟩) ∈ GW := gw_3 (List.mem_of_getElem? (i := 81) rfl) rfl
theorem g_562 : (Cond.instanceMethod ⟨"LathePieces", "gap", "(II)J"⟩) ∈ GW := gw_3 (List.mem_of_getElem? (i := 82) rfl) rfl
theorem g_563 : (Cond.selects "LathePieces" ⟨"LathePieces", "gap", "(II)J"⟩ ⟨"LathePieces", "gap", "(II)J"⟩) ∈ GW := gw_3 (List.mem_of_getElem? (i := 83) rfl) rfl
theorem g_564 : (Cond.code ⟨"LathePieces", "gap", "(II)J"⟩ prog_1_method_20_code 4 (Option.some FieldType.long)) ∈ GW := gw_3 (List.mem_of_getElem? (i := 84) rfl) rfl
theorem g_565 : (Cond.methodLink "LathePieces" 210 ⟨"LathePieces$Ring", "gapParts", "()J"⟩) ∈ GW := gw_3 (List.mem_of_getElem? (i := 85) rfl) rfl
theorem g_566 : (Cond.instanceMethod ⟨"LathePieces$Ring", "gapParts", "()J"⟩) ∈ GW := gw_3 (List.mem_of_getElem? (i := 86) rfl) rfl
theorem g_567 : (Cond.selects "LathePieces$Ring" ⟨"LathePieces$Ring", "gapParts", "()J"⟩ ⟨"LathePieces$Ring", "gapParts", "()J"⟩) ∈ GW := gw_3 (List.mem_of_getElem? (i := 87) rfl) rfl
theorem g_568 : (Cond.code ⟨"LathePieces$Ring", "gapParts", "()J"⟩ prog_6_method_3_code 1 (Option.some FieldType.long)) ∈ GW := gw_3 (List.mem_of_getElem? (i := 88) rfl) rfl
theorem g_569 : (Cond.constantLong "LathePieces$Ring" 26 (9979200 : Int64)) ∈ GW := gw_3 (List.mem_of_getElem? (i := 89) rfl) rfl
theorem g_570 : (Cond.constantLong "LathePieces" 214 (27720 : Int64)) ∈ GW := gw_3 (List.mem_of_getElem? (i := 90) rfl) rfl
theorem g_571 : (Cond.methodLink "LathePiecesLaw" 178 ⟨"LathePiecesLaw", "closes", "(LLathePieces;I[J)I"⟩) ∈ GW := gw_3 (List.mem_of_getElem? (i := 91) rfl) rfl
theorem g_572 : (Cond.static ⟨"LathePiecesLaw", "closes", "(LLathePieces;I[J)I"⟩) ∈ GW := gw_3 (List.mem_of_getElem? (i := 92) rfl) rfl
theorem g_573 : (Cond.codeWith ⟨"LathePiecesLaw", "closes", "(LLathePieces;I[J)I"⟩ method_22_code 4 (Option.some FieldType.int) [(0, 16, 19, 32)]) ∈ GW := gw_3 (List.mem_of_getElem? (i := 93) rfl) rfl
theorem g_574 : (Cond.methodLink "LathePiecesLaw" 83 ⟨"LathePieces", "closes", "(I)Z"⟩) ∈ GW := gw_3 (List.mem_of_getElem? (i := 94) rfl) rfl
theorem g_575 : (Cond.instanceMethod ⟨"LathePieces", "closes", "(I)Z"⟩) ∈ GW := gw_3 (List.mem_of_getElem? (i := 95) rfl) rfl
theorem g_576 : (Cond.selects "LathePieces" ⟨"LathePieces", "closes", "(I)Z"⟩ ⟨"LathePieces", "closes", "(I)Z"⟩) ∈ GW := gw_3 (List.mem_of_getElem? (i := 96) rfl) rfl
theorem g_577 : (Cond.code ⟨"LathePieces", "closes", "(I)Z"⟩ prog_1_method_21_code 2 (Option.some FieldType.boolean)) ∈ GW := gw_3 (List.mem_of_getElem? (i := 97) rfl) rfl
theorem g_578 : (Cond.methodLink "LathePiecesLaw" 181 ⟨"LathePiecesLaw", "flute", "(LLathePieces;III[J)I"⟩) ∈ GW := gw_3 (List.mem_of_getElem? (i := 98) rfl) rfl
theorem g_579 : (Cond.static ⟨"LathePiecesLaw", "flute", "(LLathePieces;III[J)I"⟩) ∈ GW := gw_3 (List.mem_of_getElem? (i := 99) rfl) rfl
theorem g_580 : (Cond.codeWith ⟨"LathePiecesLaw", "flute", "(LLathePieces;III[J)I"⟩ method_23_code 6 (Option.some FieldType.int) [(0, 11, 14, 32), (0, 11, 18, 13)]) ∈ GW := gw_3 (List.mem_of_getElem? (i := 100) rfl) rfl
theorem g_581 : (Cond.methodLink "LathePiecesLaw" 87 ⟨"LathePieces", "flute", "(III)J"⟩) ∈ GW := gw_3 (List.mem_of_getElem? (i := 101) rfl) rfl
theorem g_582 : (Cond.instanceMethod ⟨"LathePieces", "flute", "(III)J"⟩) ∈ GW := gw_3 (List.mem_of_getElem? (i := 102) rfl) rfl
theorem g_583 : (Cond.selects "LathePieces" ⟨"LathePieces", "flute", "(III)J"⟩ ⟨"LathePieces", "flute", "(III)J"⟩) ∈ GW := gw_3 (List.mem_of_getElem? (i := 103) rfl) rfl
theorem g_584 : (Cond.code ⟨"LathePieces", "flute", "(III)J"⟩ prog_1_method_22_code 4 (Option.some FieldType.long)) ∈ GW := gw_3 (List.mem_of_getElem? (i := 104) rfl) rfl
theorem g_585 : (Cond.constantLong "LathePieces" 216 (360 : Int64)) ∈ GW := gw_3 (List.mem_of_getElem? (i := 105) rfl) rfl
theorem g_586 : (Cond.methodLink "LathePiecesLaw" 184 ⟨"LathePiecesLaw", "thread", "(LLathePieces;II)I"⟩) ∈ GW := gw_3 (List.mem_of_getElem? (i := 106) rfl) rfl
theorem g_587 : (Cond.static ⟨"LathePiecesLaw", "thread", "(LLathePieces;II)I"⟩) ∈ GW := gw_3 (List.mem_of_getElem? (i := 107) rfl) rfl
theorem g_588 : (Cond.codeWith ⟨"LathePiecesLaw", "thread", "(LLathePieces;II)I"⟩ method_24_code 4 (Option.some FieldType.int) [(0, 6, 9, 13)]) ∈ GW := gw_3 (List.mem_of_getElem? (i := 108) rfl) rfl
theorem g_589 : (Cond.methodLink "LathePiecesLaw" 90 ⟨"LathePieces", "thread", "(II)V"⟩) ∈ GW := gw_3 (List.mem_of_getElem? (i := 109) rfl) rfl
theorem g_590 : (Cond.instanceMethod ⟨"LathePieces", "thread", "(II)V"⟩) ∈ GW := gw_3 (List.mem_of_getElem? (i := 110) rfl) rfl
theorem g_591 : (Cond.selects "LathePieces" ⟨"LathePieces", "thread", "(II)V"⟩ ⟨"LathePieces", "thread", "(II)V"⟩) ∈ GW := gw_3 (List.mem_of_getElem? (i := 111) rfl) rfl
theorem g_592 : (Cond.code ⟨"LathePieces", "thread", "(II)V"⟩ prog_1_method_23_code 3 (Option.none : Option FieldType)) ∈ GW := gw_3 (List.mem_of_getElem? (i := 112) rfl) rfl
theorem g_593 : (Cond.methodLink "LathePiecesLaw" 188 ⟨"LathePiecesLaw", "threadAt", "(LLathePieces;II[J)I"⟩) ∈ GW := gw_3 (List.mem_of_getElem? (i := 113) rfl) rfl
theorem g_594 : (Cond.static ⟨"LathePiecesLaw", "threadAt", "(LLathePieces;II[J)I"⟩) ∈ GW := gw_3 (List.mem_of_getElem? (i := 114) rfl) rfl
theorem g_595 : (Cond.codeWith ⟨"LathePiecesLaw", "threadAt", "(LLathePieces;II[J)I"⟩ method_25_code 5 (Option.some FieldType.int) [(0, 9, 12, 32), (0, 9, 16, 13), (0, 9, 20, 19)]) ∈ GW := gw_3 (List.mem_of_getElem? (i := 115) rfl) rfl
theorem g_596 : (Cond.methodLink "LathePiecesLaw" 94 ⟨"LathePieces", "threadAt", "(II)J"⟩) ∈ GW := gw_3 (List.mem_of_getElem? (i := 116) rfl) rfl
theorem g_597 : (Cond.instanceMethod ⟨"LathePieces", "threadAt", "(II)J"⟩) ∈ GW := gw_3 (List.mem_of_getElem? (i := 117) rfl) rfl
theorem g_598 : (Cond.selects "LathePieces" ⟨"LathePieces", "threadAt", "(II)J"⟩ ⟨"LathePieces", "threadAt", "(II)J"⟩) ∈ GW := gw_3 (List.mem_of_getElem? (i := 118) rfl) rfl
theorem g_599 : (Cond.code ⟨"LathePieces", "threadAt", "(II)J"⟩ prog_1_method_24_code 3 (Option.some FieldType.long)) ∈ GW := gw_3 (List.mem_of_getElem? (i := 119) rfl) rfl
theorem g_600 : (Cond.constant "LathePieces" 224 (100000 : Int32)) ∈ GW := gw_3 (List.mem_of_getElem? (i := 120) rfl) rfl
theorem g_601 : (Cond.stringRef "LathePieces" 225 "no pitch") ∈ lw_tbl := tb_3 (List.mem_of_getElem? (i := 121) rfl)
theorem g_602 : (Cond.methodLink "LathePiecesLaw" 191 ⟨"LathePiecesLaw", "row", "(LLathePieces;II[J)I"⟩) ∈ GW := gw_3 (List.mem_of_getElem? (i := 122) rfl) rfl
theorem g_603 : (Cond.static ⟨"LathePiecesLaw", "row", "(LLathePieces;II[J)I"⟩) ∈ GW := gw_3 (List.mem_of_getElem? (i := 123) rfl) rfl
theorem g_604 : (Cond.codeWith ⟨"LathePiecesLaw", "row", "(LLathePieces;II[J)I"⟩ method_26_code 5 (Option.some FieldType.int) [(0, 10, 13, 13), (0, 10, 17, 19)]) ∈ GW := gw_3 (List.mem_of_getElem? (i := 124) rfl) rfl
theorem g_605 : (Cond.methodLink "LathePiecesLaw" 97 ⟨"LathePieces", "row", "(II)I"⟩) ∈ GW := gw_3 (List.mem_of_getElem? (i := 125) rfl) rfl
theorem g_606 : (Cond.instanceMethod ⟨"LathePieces", "row", "(II)I"⟩) ∈ GW := gw_3 (List.mem_of_getElem? (i := 126) rfl) rfl
theorem g_607 : (Cond.selects "LathePieces" ⟨"LathePieces", "row", "(II)I"⟩ ⟨"LathePieces", "row", "(II)I"⟩) ∈ GW := gw_3 (List.mem_of_getElem? (i := 127) rfl) rfl
theorem g_608 : (Cond.code ⟨"LathePieces", "row", "(II)I"⟩ prog_1_method_25_code 3 (Option.some FieldType.int)) ∈ GW := gw_3 (List.mem_of_getElem? (i := 128) rfl) rfl
theorem g_609 : (Cond.stringRef "LathePieces" 232 "the radius is not above the one before") ∈ lw_tbl := tb_3 (List.mem_of_getElem? (i := 129) rfl)
theorem g_610 : (Cond.stringRef "LathePieces" 235 "no room for a row") ∈ lw_tbl := tb_3 (List.mem_of_getElem? (i := 130) rfl)
theorem g_611 : (Cond.methodLink "LathePiecesLaw" 194 ⟨"LathePiecesLaw", "speed", "(LLathePieces;II[J)I"⟩) ∈ GW := gw_3 (List.mem_of_getElem? (i := 131) rfl) rfl
theorem g_612 : (Cond.static ⟨"LathePiecesLaw", "speed", "(LLathePieces;II[J)I"⟩) ∈ GW := gw_3 (List.mem_of_getElem? (i := 132) rfl) rfl
theorem g_613 : (Cond.codeWith ⟨"LathePiecesLaw", "speed", "(LLathePieces;II[J)I"⟩ method_27_code 5 (Option.some FieldType.int) [(0, 10, 13, 32), (0, 10, 17, 19)]) ∈ GW := gw_3 (List.mem_of_getElem? (i := 133) rfl) rfl
theorem g_614 : (Cond.methodLink "LathePiecesLaw" 100 ⟨"LathePieces", "speed", "(II)I"⟩) ∈ GW := gw_3 (List.mem_of_getElem? (i := 134) rfl) rfl
theorem g_615 : (Cond.instanceMethod ⟨"LathePieces", "speed", "(II)I"⟩) ∈ GW := gw_3 (List.mem_of_getElem? (i := 135) rfl) rfl
theorem g_616 : (Cond.selects "LathePieces" ⟨"LathePieces", "speed", "(II)I"⟩ ⟨"LathePieces", "speed", "(II)I"⟩) ∈ GW := gw_3 (List.mem_of_getElem? (i := 136) rfl) rfl
theorem g_617 : (Cond.code ⟨"LathePieces", "speed", "(II)I"⟩ prog_1_method_26_code 5 (Option.some FieldType.int)) ∈ GW := gw_3 (List.mem_of_getElem? (i := 137) rfl) rfl
theorem g_618 : (Cond.stringRef "LathePieces" 237 "no rows") ∈ lw_tbl := tb_3 (List.mem_of_getElem? (i := 138) rfl)
theorem g_619 : (Cond.classLink "LathePiecesLaw" 104 "LathePiecesModel") ∈ GW := gw_3 (List.mem_of_getElem? (i := 139) rfl) rfl
theorem g_620 : (Cond.instantiable "LathePiecesModel" 26) ∈ GW := gw_3 (List.mem_of_getElem? (i := 140) rfl) rfl
theorem g_621 : (Cond.methodLink "LathePiecesLaw" 106 ⟨"LathePiecesModel", "<init>", "()V"⟩) ∈ GW := gw_3 (List.mem_of_getElem? (i := 141) rfl) rfl
theorem g_622 : (Cond.instanceMethod ⟨"LathePiecesModel", "<init>", "()V"⟩) ∈ GW := gw_3 (List.mem_of_getElem? (i := 142) rfl) rfl
theorem g_623 : (Cond.code ⟨"LathePiecesModel", "<init>", "()V"⟩ prog_8_method_1_code 1 (Option.none : Option FieldType)) ∈ GW := gw_3 (List.mem_of_getElem? (i := 143) rfl) rfl
theorem g_624 : (Cond.methodLink "LathePiecesModel" 1 ⟨"java/lang/Object", "<init>", "()V"⟩) ∈ GW := gw_3 (List.mem_of_getElem? (i := 144) rfl) rfl
theorem g_625 : (Cond.fieldLink "LathePiecesModel" 58 "LathePiecesModel" "code" "I") ∈ GW := gw_3 (List.mem_of_getElem? (i := 145) rfl) rfl
theorem g_626 : (Cond.fieldLink "LathePiecesModel" 68 "LathePiecesModel" "begun" "Z") ∈ GW := gw_3 (List.mem_of_getElem? (i := 146) rfl) rfl
theorem g_627 : (Cond.fieldLink "LathePiecesModel" 72 "LathePiecesModel" "first" "I") ∈ GW := gw_3 (List.mem_of_getElem? (i := 147) rfl) rfl
theorem g_628 : (Cond.fieldLink "LathePiecesModel" 75 "LathePiecesModel" "ways" "I") ∈ GW := gw_3 (List.mem_of_getElem? (i := 148) rfl) rfl
theorem g_629 : (Cond.fieldLink "LathePiecesModel" 7 "LathePiecesModel" "at" "[I") ∈ GW := gw_3 (List.mem_of_getElem? (i := 149) rfl) rfl
theorem g_630 : (Cond.fieldLink "LathePiecesModel" 13 "LathePiecesModel" "end" "[I") ∈ GW := gw_3 (List.mem_of_getElem? (i := 150) rfl) rfl
theorem g_631 : (Cond.fieldLink "LathePiecesModel" 16 "LathePiecesModel" "sort" "[I") ∈ GW := gw_3 (List.mem_of_getElem? (i := 151) rfl) rfl
theorem g_632 : (Cond.fieldLink "LathePiecesModel" 19 "LathePiecesModel" "centre" "[I") ∈ GW := gw_3 (List.mem_of_getElem? (i := 152) rfl) rfl
theorem g_633 : (Cond.fieldLink "LathePiecesModel" 22 "LathePiecesModel" "high" "[I") ∈ GW := gw_3 (List.mem_of_getElem? (i := 153) rfl) rfl
theorem g_634 : (Cond.fieldLink "LathePiecesModel" 111 "LathePiecesModel" "pieces" "I") ∈ GW := gw_3 (List.mem_of_getElem? (i := 154) rfl) rfl
theorem g_635 : (Cond.fieldLink "LathePiecesModel" 25 "LathePiecesModel" "length" "[I") ∈ GW := gw_3 (List.mem_of_getElem? (i := 155) rfl) rfl
theorem g_636 : (Cond.fieldLink "LathePiecesModel" 28 "LathePiecesModel" "made" "[I") ∈ GW := gw_3 (List.mem_of_getElem? (i := 156) rfl) rfl
theorem g_637 : (Cond.fieldLink "LathePiecesModel" 31 "LathePiecesModel" "radii" "[I") ∈ GW := gw_3 (List.mem_of_getElem? (i := 157) rfl) rfl
theorem g_638 : (Cond.fieldLink "LathePiecesModel" 132 "LathePiecesModel" "tools" "I") ∈ GW := gw_3 (List.mem_of_getElem? (i := 158) rfl) rfl
theorem g_639 : (Cond.fieldLink "LathePiecesModel" 34 "LathePiecesModel" "noses" "[I") ∈ GW := gw_3 (List.mem_of_getElem? (i := 159) rfl) rfl
theorem g_640 : (Cond.fieldLink "LathePiecesModel" 37 "LathePiecesModel" "lifts" "[I") ∈ GW := gw_3 (List.mem_of_getElem? (i := 160) rfl) rfl
theorem g_641 : (Cond.fieldLink "LathePiecesModel" 40 "LathePiecesModel" "reach" "[I") ∈ GW := gw_3 (List.mem_of_getElem? (i := 161) rfl) rfl
theorem g_642 : (Cond.fieldLink "LathePiecesModel" 160 "LathePiecesModel" "rings" "I") ∈ GW := gw_3 (List.mem_of_getElem? (i := 162) rfl) rfl
theorem g_643 : (Cond.fieldLink "LathePiecesModel" 43 "LathePiecesModel" "wedges" "[I") ∈ GW := gw_3 (List.mem_of_getElem? (i := 163) rfl) rfl
theorem g_644 : (Cond.fieldLink "LathePiecesModel" 46 "LathePiecesModel" "above" "[I") ∈ GW := gw_3 (List.mem_of_getElem? (i := 164) rfl) rfl
theorem g_645 : (Cond.fieldLink "LathePiecesModel" 49 "LathePiecesModel" "below" "[I") ∈ GW := gw_3 (List.mem_of_getElem? (i := 165) rfl) rfl
theorem g_646 : (Cond.fieldLink "LathePiecesModel" 181 "LathePiecesModel" "pitchAbove" "I") ∈ GW := gw_3 (List.mem_of_getElem? (i := 166) rfl) rfl
theorem g_647 : (Cond.fieldLink "LathePiecesModel" 184 "LathePiecesModel" "pitchBelow" "I") ∈ GW := gw_3 (List.mem_of_getElem? (i := 167) rfl) rfl
theorem g_648 : (Cond.fieldLink "LathePiecesModel" 187 "LathePiecesModel" "rows" "I") ∈ GW := gw_3 (List.mem_of_getElem? (i := 168) rfl) rfl
theorem g_649 : (Cond.fieldLink "LathePiecesModel" 52 "LathePiecesModel" "upTo" "[I") ∈ GW := gw_3 (List.mem_of_getElem? (i := 169) rfl) rfl
theorem g_650 : (Cond.fieldLink "LathePiecesModel" 55 "LathePiecesModel" "turns" "[I") ∈ GW := gw_3 (List.mem_of_getElem? (i := 170) rfl) rfl
theorem g_651 : (Cond.lays "LathePiecesModel" "LathePiecesModel" "code" "I") ∈ GW := gw_3 (List.mem_of_getElem? (i := 171) rfl) rfl
theorem g_652 : (Cond.soleField "LathePiecesModel" "code") ∈ GW := gw_3 (List.mem_of_getElem? (i := 172) rfl) rfl
theorem g_653 : (Cond.lays "LathePiecesModel" "LathePiecesModel" "begun" "Z") ∈ GW := gw_3 (List.mem_of_getElem? (i := 173) rfl) rfl
theorem g_654 : (Cond.soleField "LathePiecesModel" "begun") ∈ GW := gw_3 (List.mem_of_getElem? (i := 174) rfl) rfl
theorem g_655 : (Cond.lays "LathePiecesModel" "LathePiecesModel" "first" "I") ∈ GW := gw_3 (List.mem_of_getElem? (i := 175) rfl) rfl
theorem g_656 : (Cond.soleField "LathePiecesModel" "first") ∈ GW := gw_3 (List.mem_of_getElem? (i := 176) rfl) rfl
theorem g_657 : (Cond.lays "LathePiecesModel" "LathePiecesModel" "ways" "I") ∈ GW := gw_3 (List.mem_of_getElem? (i := 177) rfl) rfl
theorem g_658 : (Cond.soleField "LathePiecesModel" "ways") ∈ GW := gw_3 (List.mem_of_getElem? (i := 178) rfl) rfl
theorem g_659 : (Cond.laysFinal "LathePiecesModel" "LathePiecesModel" "at" "[I") ∈ GW := gw_3 (List.mem_of_getElem? (i := 179) rfl) rfl
theorem g_660 : (Cond.soleField "LathePiecesModel" "at") ∈ GW := gw_3 (List.mem_of_getElem? (i := 180) rfl) rfl
theorem g_661 : (Cond.laysFinal "LathePiecesModel" "LathePiecesModel" "end" "[I") ∈ GW := gw_3 (List.mem_of_getElem? (i := 181) rfl) rfl
theorem g_662 : (Cond.soleField "LathePiecesModel" "end") ∈ GW := gw_3 (List.mem_of_getElem? (i := 182) rfl) rfl
theorem g_663 : (Cond.laysFinal "LathePiecesModel" "LathePiecesModel" "sort" "[I") ∈ GW := gw_3 (List.mem_of_getElem? (i := 183) rfl) rfl
theorem g_664 : (Cond.soleField "LathePiecesModel" "sort") ∈ GW := gw_3 (List.mem_of_getElem? (i := 184) rfl) rfl
theorem g_665 : (Cond.laysFinal "LathePiecesModel" "LathePiecesModel" "centre" "[I") ∈ GW := gw_3 (List.mem_of_getElem? (i := 185) rfl) rfl
theorem g_666 : (Cond.soleField "LathePiecesModel" "centre") ∈ GW := gw_3 (List.mem_of_getElem? (i := 186) rfl) rfl
theorem g_667 : (Cond.laysFinal "LathePiecesModel" "LathePiecesModel" "high" "[I") ∈ GW := gw_3 (List.mem_of_getElem? (i := 187) rfl) rfl
theorem g_668 : (Cond.soleField "LathePiecesModel" "high") ∈ GW := gw_3 (List.mem_of_getElem? (i := 188) rfl) rfl
theorem g_669 : (Cond.lays "LathePiecesModel" "LathePiecesModel" "pieces" "I") ∈ GW := gw_3 (List.mem_of_getElem? (i := 189) rfl) rfl
theorem g_670 : (Cond.soleField "LathePiecesModel" "pieces") ∈ GW := gw_3 (List.mem_of_getElem? (i := 190) rfl) rfl
theorem g_671 : (Cond.laysFinal "LathePiecesModel" "LathePiecesModel" "length" "[I") ∈ GW := gw_3 (List.mem_of_getElem? (i := 191) rfl) rfl
theorem g_672 : (Cond.soleField "LathePiecesModel" "length") ∈ GW := gw_3 (List.mem_of_getElem? (i := 192) rfl) rfl
theorem g_673 : (Cond.laysFinal "LathePiecesModel" "LathePiecesModel" "made" "[I") ∈ GW := gw_3 (List.mem_of_getElem? (i := 193) rfl) rfl
theorem g_674 : (Cond.soleField "LathePiecesModel" "made") ∈ GW := gw_3 (List.mem_of_getElem? (i := 194) rfl) rfl
theorem g_675 : (Cond.laysFinal "LathePiecesModel" "LathePiecesModel" "radii" "[I") ∈ GW := gw_3 (List.mem_of_getElem? (i := 195) rfl) rfl
theorem g_676 : (Cond.soleField "LathePiecesModel" "radii") ∈ GW := gw_3 (List.mem_of_getElem? (i := 196) rfl) rfl
theorem g_677 : (Cond.lays "LathePiecesModel" "LathePiecesModel" "tools" "I") ∈ GW := gw_3 (List.mem_of_getElem? (i := 197) rfl) rfl
theorem g_678 : (Cond.soleField "LathePiecesModel" "tools") ∈ GW := gw_3 (List.mem_of_getElem? (i := 198) rfl) rfl
theorem g_679 : (Cond.laysFinal "LathePiecesModel" "LathePiecesModel" "noses" "[I") ∈ GW := gw_3 (List.mem_of_getElem? (i := 199) rfl) rfl
theorem g_680 : (Cond.soleField "LathePiecesModel" "noses") ∈ GW := gw_3 (List.mem_of_getElem? (i := 200) rfl) rfl
theorem g_681 : (Cond.laysFinal "LathePiecesModel" "LathePiecesModel" "lifts" "[I") ∈ GW := gw_3 (List.mem_of_getElem? (i := 201) rfl) rfl
theorem g_682 : (Cond.soleField "LathePiecesModel" "lifts") ∈ GW := gw_3 (List.mem_of_getElem? (i := 202) rfl) rfl
theorem g_683 : (Cond.laysFinal "LathePiecesModel" "LathePiecesModel" "reach" "[I") ∈ GW := gw_3 (List.mem_of_getElem? (i := 203) rfl) rfl
theorem g_684 : (Cond.soleField "LathePiecesModel" "reach") ∈ GW := gw_3 (List.mem_of_getElem? (i := 204) rfl) rfl
theorem g_685 : (Cond.lays "LathePiecesModel" "LathePiecesModel" "rings" "I") ∈ GW := gw_3 (List.mem_of_getElem? (i := 205) rfl) rfl
theorem g_686 : (Cond.soleField "LathePiecesModel" "rings") ∈ GW := gw_3 (List.mem_of_getElem? (i := 206) rfl) rfl
theorem g_687 : (Cond.laysFinal "LathePiecesModel" "LathePiecesModel" "wedges" "[I") ∈ GW := gw_3 (List.mem_of_getElem? (i := 207) rfl) rfl
theorem g_688 : (Cond.soleField "LathePiecesModel" "wedges") ∈ GW := gw_3 (List.mem_of_getElem? (i := 208) rfl) rfl
theorem g_689 : (Cond.laysFinal "LathePiecesModel" "LathePiecesModel" "above" "[I") ∈ GW := gw_3 (List.mem_of_getElem? (i := 209) rfl) rfl
theorem g_690 : (Cond.soleField "LathePiecesModel" "above") ∈ GW := gw_3 (List.mem_of_getElem? (i := 210) rfl) rfl
theorem g_691 : (Cond.laysFinal "LathePiecesModel" "LathePiecesModel" "below" "[I") ∈ GW := gw_3 (List.mem_of_getElem? (i := 211) rfl) rfl
theorem g_692 : (Cond.soleField "LathePiecesModel" "below") ∈ GW := gw_3 (List.mem_of_getElem? (i := 212) rfl) rfl
theorem g_693 : (Cond.lays "LathePiecesModel" "LathePiecesModel" "pitchAbove" "I") ∈ GW := gw_3 (List.mem_of_getElem? (i := 213) rfl) rfl
theorem g_694 : (Cond.soleField "LathePiecesModel" "pitchAbove") ∈ GW := gw_3 (List.mem_of_getElem? (i := 214) rfl) rfl
theorem g_695 : (Cond.lays "LathePiecesModel" "LathePiecesModel" "pitchBelow" "I") ∈ GW := gw_3 (List.mem_of_getElem? (i := 215) rfl) rfl
theorem g_696 : (Cond.soleField "LathePiecesModel" "pitchBelow") ∈ GW := gw_3 (List.mem_of_getElem? (i := 216) rfl) rfl
theorem g_697 : (Cond.lays "LathePiecesModel" "LathePiecesModel" "rows" "I") ∈ GW := gw_3 (List.mem_of_getElem? (i := 217) rfl) rfl
theorem g_698 : (Cond.soleField "LathePiecesModel" "rows") ∈ GW := gw_3 (List.mem_of_getElem? (i := 218) rfl) rfl
theorem g_699 : (Cond.laysFinal "LathePiecesModel" "LathePiecesModel" "upTo" "[I") ∈ GW := gw_3 (List.mem_of_getElem? (i := 219) rfl) rfl
theorem g_700 : (Cond.soleField "LathePiecesModel" "upTo") ∈ GW := gw_3 (List.mem_of_getElem? (i := 220) rfl) rfl
theorem g_701 : (Cond.laysFinal "LathePiecesModel" "LathePiecesModel" "turns" "[I") ∈ GW := gw_3 (List.mem_of_getElem? (i := 221) rfl) rfl
theorem g_702 : (Cond.soleField "LathePiecesModel" "turns") ∈ GW := gw_3 (List.mem_of_getElem? (i := 222) rfl) rfl
theorem g_703 : (Cond.superclass "LathePiecesModel" "java/lang/Object") ∈ GW := gw_3 (List.mem_of_getElem? (i := 223) rfl) rfl
theorem g_704 : (Cond.methodLink "LathePiecesLaw" 113 ⟨"LathePiecesModel", "thrown", "()I"⟩) ∈ GW := gw_3 (List.mem_of_getElem? (i := 224) rfl) rfl
theorem g_705 : (Cond.instanceMethod ⟨"LathePiecesModel", "thrown", "()I"⟩) ∈ GW := gw_3 (List.mem_of_getElem? (i := 225) rfl) rfl
theorem g_706 : (Cond.selects "LathePiecesModel" ⟨"LathePiecesModel", "thrown", "()I"⟩ ⟨"LathePiecesModel", "thrown", "()I"⟩) ∈ GW := gw_3 (List.mem_of_getElem? (i := 226) rfl) rfl
theorem g_707 : (Cond.code ⟨"LathePiecesModel", "thrown", "()I"⟩ prog_8_method_2_code 1 (Option.some FieldType.int)) ∈ GW := gw_3 (List.mem_of_getElem? (i := 227) rfl) rfl
theorem g_708 : (Cond.methodLink "LathePiecesLaw" 112 ⟨"LathePiecesModel", "start", "(I)V"⟩) ∈ GW := gw_3 (List.mem_of_getElem? (i := 228) rfl) rfl
theorem g_709 : (Cond.instanceMethod ⟨"LathePiecesModel", "start", "(I)V"⟩) ∈ GW := gw_3 (List.mem_of_getElem? (i := 229) rfl) rfl
theorem g_710 : (Cond.selects "LathePiecesModel" ⟨"LathePiecesModel", "start", "(I)V"⟩ ⟨"LathePiecesModel", "start", "(I)V"⟩) ∈ GW := gw_3 (List.mem_of_getElem? (i := 230) rfl) rfl
theorem g_711 : (Cond.code ⟨"LathePiecesModel", "start", "(I)V"⟩ prog_8_method_5_code 2 (Option.none : Option FieldType)) ∈ GW := gw_3 (List.mem_of_getElem? (i := 231) rfl) rfl
theorem g_712 : (Cond.constantLong "LathePiecesModel" 62 (500 : Int64)) ∈ GW := gw_3 (List.mem_of_getElem? (i := 232) rfl) rfl
theorem g_713 : (Cond.methodLink "LathePiecesModel" 64 ⟨"LathePiecesModel", "in", "(JJJ)Z"⟩) ∈ GW := gw_3 (List.mem_of_getElem? (i := 233) rfl) rfl
theorem g_714 : (Cond.static ⟨"LathePiecesModel", "in", "(JJJ)Z"⟩) ∈ GW := gw_3 (List.mem_of_getElem? (i := 234) rfl) rfl
theorem g_715 : (Cond.code ⟨"LathePiecesModel", "in", "(JJJ)Z"⟩ prog_8_method_3_code 6 (Option.some FieldType.boolean)) ∈ GW := gw_3 (List.mem_of_getElem? (i := 235) rfl) rfl
theorem g_716 : (Cond.methodLink "LathePiecesLaw" 119 ⟨"LathePiecesModel", "line", "(II)I"⟩) ∈ GW := gw_3 (List.mem_of_getElem? (i := 236) rfl) rfl
theorem g_717 : (Cond.instanceMethod ⟨"LathePiecesModel", "line", "(II)I"⟩) ∈ GW := gw_3 (List.mem_of_getElem? (i := 237) rfl) rfl
theorem g_718 : (Cond.selects "LathePiecesModel" ⟨"LathePiecesModel", "line", "(II)I"⟩ ⟨"LathePiecesModel", "line", "(II)I"⟩) ∈ GW := gw_3 (List.mem_of_getElem? (i := 238) rfl) rfl
theorem g_719 : (Cond.code ⟨"LathePiecesModel", "line", "(II)I"⟩ prog_8_method_10_code 3 (Option.some FieldType.int)) ∈ GW := gw_3 (List.mem_of_getElem? (i := 239) rfl) rfl
theorem g_720 : (Cond.methodLink "LathePiecesModel" 84 ⟨"LathePiecesModel", "look", "(II)V"⟩) ∈ GW := gw_4 (List.mem_of_getElem? (i := 0) rfl) rfl
theorem g_721 : (Cond.privateMethod ⟨"LathePiecesModel", "look", "(II)V"⟩) ∈ lw_tbl := tb_4 (List.mem_of_getElem? (i := 1) rfl)
theorem g_722 : (Cond.instanceMethod ⟨"LathePiecesModel", "look", "(II)V"⟩) ∈ GW := gw_4 (List.mem_of_getElem? (i := 2) rfl) rfl
theorem g_723 : (Cond.code ⟨"LathePiecesModel", "look", "(II)V"⟩ prog_8_method_8_code 3 (Option.none : Option FieldType)) ∈ GW := gw_4 (List.mem_of_getElem? (i := 3) rfl) rfl
theorem g_724 : (Cond.constantLong "LathePiecesModel" 78 (64 : Int64)) ∈ GW := gw_4 (List.mem_of_getElem? (i := 4) rfl) rfl
theorem g_725 : (Cond.methodLink "LathePiecesModel" 80 ⟨"LathePiecesModel", "lastAt", "()I"⟩) ∈ GW := gw_4 (List.mem_of_getElem? (i := 5) rfl) rfl
theorem g_726 : (Cond.privateMethod ⟨"LathePiecesModel", "lastAt", "()I"⟩) ∈ lw_tbl := tb_4 (List.mem_of_getElem? (i := 6) rfl)
theorem g_727 : (Cond.instanceMethod ⟨"LathePiecesModel", "lastAt", "()I"⟩) ∈ GW := gw_4 (List.mem_of_getElem? (i := 7) rfl) rfl
theorem g_728 : (Cond.code ⟨"LathePiecesModel", "lastAt", "()I"⟩ prog_8_method_6_code 1 (Option.some FieldType.int)) ∈ GW := gw_4 (List.mem_of_getElem? (i := 8) rfl) rfl
theorem g_729 : (Cond.methodLink "LathePiecesModel" 88 ⟨"LathePiecesModel", "add", "(IIIII)V"⟩) ∈ GW := gw_4 (List.mem_of_getElem? (i := 9) rfl) rfl
theorem g_730 : (Cond.privateMethod ⟨"LathePiecesModel", "add", "(IIIII)V"⟩) ∈ lw_tbl := tb_4 (List.mem_of_getElem? (i := 10) rfl)
theorem g_731 : (Cond.instanceMethod ⟨"LathePiecesModel", "add", "(IIIII)V"⟩) ∈ GW := gw_4 (List.mem_of_getElem? (i := 11) rfl) rfl
theorem g_732 : (Cond.code ⟨"LathePiecesModel", "add", "(IIIII)V"⟩ prog_8_method_9_code 6 (Option.none : Option FieldType)) ∈ GW := gw_4 (List.mem_of_getElem? (i := 12) rfl) rfl
theorem g_733 : (Cond.methodLink "LathePiecesLaw" 123 ⟨"LathePiecesModel", "arc", "(IIIIZ)Z"⟩) ∈ GW := gw_4 (List.mem_of_getElem? (i := 13) rfl) rfl
theorem g_734 : (Cond.instanceMethod ⟨"LathePiecesModel", "arc", "(IIIIZ)Z"⟩) ∈ GW := gw_4 (List.mem_of_getElem? (i := 14) rfl) rfl
theorem g_735 : (Cond.selects "LathePiecesModel" ⟨"LathePiecesModel", "arc", "(IIIIZ)Z"⟩ ⟨"LathePiecesModel", "arc", "(IIIIZ)Z"⟩) ∈ GW := gw_4 (List.mem_of_getElem? (i := 15) rfl) rfl
theorem g_736 : (Cond.code ⟨"LathePiecesModel", "arc", "(IIIIZ)Z"⟩ prog_8_method_12_code 8 (Option.some FieldType.boolean)) ∈ GW := gw_4 (List.mem_of_getElem? (i := 16) rfl) rfl
theorem g_737 : (Cond.constantLong "LathePiecesModel" 92 (-200 : Int64)) ∈ GW := gw_4 (List.mem_of_getElem? (i := 17) rfl) rfl
theorem g_738 : (Cond.constantLong "LathePiecesModel" 94 (300 : Int64)) ∈ GW := gw_4 (List.mem_of_getElem? (i := 18) rfl) rfl
theorem g_739 : (Cond.constantLong "LathePiecesModel" 96 (-1000 : Int64)) ∈ GW := gw_4 (List.mem_of_getElem? (i := 19) rfl) rfl
theorem g_740 : (Cond.constantLong "LathePiecesModel" 98 (1500 : Int64)) ∈ GW := gw_4 (List.mem_of_getElem? (i := 20) rfl) rfl
theorem g_741 : (Cond.methodLink "LathePiecesModel" 100 ⟨"LathePiecesModel", "lastRadius", "()I"⟩) ∈ GW := gw_4 (List.mem_of_getElem? (i := 21) rfl) rfl
theorem g_742 : (Cond.privateMethod ⟨"LathePiecesModel", "lastRadius", "()I"⟩) ∈ lw_tbl := tb_4 (List.mem_of_getElem? (i := 22) rfl)
theorem g_743 : (Cond.instanceMethod ⟨"LathePiecesModel", "lastRadius", "()I"⟩) ∈ GW := gw_4 (List.mem_of_getElem? (i := 23) rfl) rfl
theorem g_744 : (Cond.code ⟨"LathePiecesModel", "lastRadius", "()I"⟩ prog_8_method_7_code 1 (Option.some FieldType.int)) ∈ GW := gw_4 (List.mem_of_getElem? (i := 24) rfl) rfl
theorem g_745 : (Cond.methodLink "LathePiecesModel" 103 ⟨"LathePiecesModel", "square", "(IIII)I"⟩) ∈ GW := gw_4 (List.mem_of_getElem? (i := 25) rfl) rfl
theorem g_746 : (Cond.static ⟨"LathePiecesModel", "square", "(IIII)I"⟩) ∈ GW := gw_4 (List.mem_of_getElem? (i := 26) rfl) rfl
theorem g_747 : (Cond.code ⟨"LathePiecesModel", "square", "(IIII)I"⟩ prog_8_method_11_code 4 (Option.some FieldType.int)) ∈ GW := gw_4 (List.mem_of_getElem? (i := 27) rfl) rfl
theorem g_748 : (Cond.methodLink "LathePiecesLaw" 127 ⟨"LathePiecesModel", "turn", "()I"⟩) ∈ GW := gw_4 (List.mem_of_getElem? (i := 28) rfl) rfl
theorem g_749 : (Cond.instanceMethod ⟨"LathePiecesModel", "turn", "()I"⟩) ∈ GW := gw_4 (List.mem_of_getElem? (i := 29) rfl) rfl
theorem g_750 : (Cond.selects "LathePiecesModel" ⟨"LathePiecesModel", "turn", "()I"⟩ ⟨"LathePiecesModel", "turn", "()I"⟩) ∈ GW := gw_4 (List.mem_of_getElem? (i := 30) rfl) rfl
theorem g_751 : (Cond.code ⟨"LathePiecesModel", "turn", "()I"⟩ prog_8_method_14_code 6 (Option.some FieldType.int)) ∈ GW := gw_4 (List.mem_of_getElem? (i := 31) rfl) rfl
theorem g_752 : (Cond.methodLink "LathePiecesModel" 114 ⟨"LathePiecesModel", "onWay", "(IIII)I"⟩) ∈ GW := gw_4 (List.mem_of_getElem? (i := 32) rfl) rfl
theorem g_753 : (Cond.privateMethod ⟨"LathePiecesModel", "onWay", "(IIII)I"⟩) ∈ lw_tbl := tb_4 (List.mem_of_getElem? (i := 33) rfl)
theorem g_754 : (Cond.instanceMethod ⟨"LathePiecesModel", "onWay", "(IIII)I"⟩) ∈ GW := gw_4 (List.mem_of_getElem? (i := 34) rfl) rfl
theorem g_755 : (Cond.code ⟨"LathePiecesModel", "onWay", "(IIII)I"⟩ prog_8_method_13_code 7 (Option.some FieldType.int)) ∈ GW := gw_4 (List.mem_of_getElem? (i := 35) rfl) rfl
theorem g_756 : (Cond.methodLink "LathePiecesModel" 107 ⟨"LathePiecesModel", "root", "(I)I"⟩) ∈ GW := gw_4 (List.mem_of_getElem? (i := 36) rfl) rfl
theorem g_757 : (Cond.static ⟨"LathePiecesModel", "root", "(I)I"⟩) ∈ GW := gw_4 (List.mem_of_getElem? (i := 37) rfl) rfl
theorem g_758 : (Cond.code ⟨"LathePiecesModel", "root", "(I)I"⟩ prog_8_method_4_code 2 (Option.some FieldType.int)) ∈ GW := gw_4 (List.mem_of_getElem? (i := 38) rfl) rfl
theorem g_759 : (Cond.methodLink "LathePiecesLaw" 130 ⟨"LathePiecesModel", "radius", "(II)I"⟩) ∈ GW := gw_4 (List.mem_of_getElem? (i := 39) rfl) rfl
theorem g_760 : (Cond.instanceMethod ⟨"LathePiecesModel", "radius", "(II)I"⟩) ∈ GW := gw_4 (List.mem_of_getElem? (i := 40) rfl) rfl
theorem g_761 : (Cond.selects "LathePiecesModel" ⟨"LathePiecesModel", "radius", "(II)I"⟩ ⟨"LathePiecesModel", "radius", "(II)I"⟩) ∈ GW := gw_4 (List.mem_of_getElem? (i := 41) rfl) rfl
theorem g_762 : (Cond.code ⟨"LathePiecesModel", "radius", "(II)I"⟩ prog_8_method_17_code 3 (Option.some FieldType.int)) ∈ GW := gw_4 (List.mem_of_getElem? (i := 42) rfl) rfl
theorem g_763 : (Cond.methodLink "LathePiecesModel" 121 ⟨"LathePiecesModel", "hasPlace", "(II)Z"⟩) ∈ GW := gw_4 (List.mem_of_getElem? (i := 43) rfl) rfl
theorem g_764 : (Cond.privateMethod ⟨"LathePiecesModel", "hasPlace", "(II)Z"⟩) ∈ lw_tbl := tb_4 (List.mem_of_getElem? (i := 44) rfl)
theorem g_765 : (Cond.instanceMethod ⟨"LathePiecesModel", "hasPlace", "(II)Z"⟩) ∈ GW := gw_4 (List.mem_of_getElem? (i := 45) rfl) rfl
theorem g_766 : (Cond.code ⟨"LathePiecesModel", "hasPlace", "(II)Z"⟩ prog_8_method_16_code 3 (Option.some FieldType.boolean)) ∈ GW := gw_4 (List.mem_of_getElem? (i := 46) rfl) rfl
theorem g_767 : (Cond.methodLink "LathePiecesModel" 117 ⟨"LathePiecesModel", "isPiece", "(I)Z"⟩) ∈ GW := gw_4 (List.mem_of_getElem? (i := 47) rfl) rfl
theorem g_768 : (Cond.privateMethod ⟨"LathePiecesModel", "isPiece", "(I)Z"⟩) ∈ lw_tbl := tb_4 (List.mem_of_getElem? (i := 48) rfl)
theorem g_769 : (Cond.instanceMethod ⟨"LathePiecesModel", "isPiece", "(I)Z"⟩) ∈ GW := gw_4 (List.mem_of_getElem? (i := 49) rfl) rfl
theorem g_770 : (Cond.code ⟨"LathePiecesModel", "isPiece", "(I)Z"⟩ prog_8_method_15_code 2 (Option.some FieldType.boolean)) ∈ GW := gw_4 (List.mem_of_getElem? (i := 50) rfl) rfl
theorem g_771 : (Cond.methodLink "LathePiecesLaw" 133 ⟨"LathePiecesModel", "about", "(II)I"⟩) ∈ GW := gw_4 (List.mem_of_getElem? (i := 51) rfl) rfl
theorem g_772 : (Cond.instanceMethod ⟨"LathePiecesModel", "about", "(II)I"⟩) ∈ GW := gw_4 (List.mem_of_getElem? (i := 52) rfl) rfl
theorem g_773 : (Cond.selects "LathePiecesModel" ⟨"LathePiecesModel", "about", "(II)I"⟩ ⟨"LathePiecesModel", "about", "(II)I"⟩) ∈ GW := gw_4 (List.mem_of_getElem? (i := 53) rfl) rfl
theorem g_774 : (Cond.code ⟨"LathePiecesModel", "about", "(II)I"⟩ prog_8_method_19_code 3 (Option.some FieldType.int)) ∈ GW := gw_4 (List.mem_of_getElem? (i := 54) rfl) rfl
theorem g_775 : (Cond.constantLong "LathePiecesModel" 125 (2 : Int64)) ∈ GW := gw_4 (List.mem_of_getElem? (i := 55) rfl) rfl
theorem g_776 : (Cond.methodLink "LathePiecesModel" 127 ⟨"LathePiecesModel", "blank", "(I)I"⟩) ∈ GW := gw_4 (List.mem_of_getElem? (i := 56) rfl) rfl
theorem g_777 : (Cond.privateMethod ⟨"LathePiecesModel", "blank", "(I)I"⟩) ∈ lw_tbl := tb_4 (List.mem_of_getElem? (i := 57) rfl)
theorem g_778 : (Cond.instanceMethod ⟨"LathePiecesModel", "blank", "(I)I"⟩) ∈ GW := gw_4 (List.mem_of_getElem? (i := 58) rfl) rfl
theorem g_779 : (Cond.code ⟨"LathePiecesModel", "blank", "(I)I"⟩ prog_8_method_18_code 4 (Option.some FieldType.int)) ∈ GW := gw_4 (List.mem_of_getElem? (i := 59) rfl) rfl
theorem g_780 : (Cond.methodLink "LathePiecesLaw" 137 ⟨"LathePiecesModel", "tool", "(I)I"⟩) ∈ GW := gw_4 (List.mem_of_getElem? (i := 60) rfl) rfl
theorem g_781 : (Cond.instanceMethod ⟨"LathePiecesModel", "tool", "(I)I"⟩) ∈ GW := gw_4 (List.mem_of_getElem? (i := 61) rfl) rfl
theorem g_782 : (Cond.selects "LathePiecesModel" ⟨"LathePiecesModel", "tool", "(I)I"⟩ ⟨"LathePiecesModel", "tool", "(I)I"⟩) ∈ GW := gw_4 (List.mem_of_getElem? (i := 62) rfl) rfl
theorem g_783 : (Cond.code ⟨"LathePiecesModel", "tool", "(I)I"⟩ prog_8_method_20_code 2 (Option.some FieldType.int)) ∈ GW := gw_4 (List.mem_of_getElem? (i := 63) rfl) rfl
theorem g_784 : (Cond.constantLong "LathePiecesModel" 130 (12 : Int64)) ∈ GW := gw_4 (List.mem_of_getElem? (i := 64) rfl) rfl
theorem g_785 : (Cond.methodLink "LathePiecesLaw" 141 ⟨"LathePiecesModel", "reached", "(III)I"⟩) ∈ GW := gw_4 (List.mem_of_getElem? (i := 65) rfl) rfl
theorem g_786 : (Cond.instanceMethod ⟨"LathePiecesModel", "reached", "(III)I"⟩) ∈ GW := gw_4 (List.mem_of_getElem? (i := 66) rfl) rfl
theorem g_787 : (Cond.selects "LathePiecesModel" ⟨"LathePiecesModel", "reached", "(III)I"⟩ ⟨"LathePiecesModel", "reached", "(III)I"⟩) ∈ GW := gw_4 (List.mem_of_getElem? (i := 67) rfl) rfl
theorem g_788 : (Cond.code ⟨"LathePiecesModel", "reached", "(III)I"⟩ prog_8_method_22_code 4 (Option.some FieldType.int)) ∈ GW := gw_4 (List.mem_of_getElem? (i := 68) rfl) rfl
theorem g_789 : (Cond.methodLink "LathePiecesModel" 135 ⟨"LathePiecesModel", "reachAll", "(II)V"⟩) ∈ GW := gw_4 (List.mem_of_getElem? (i := 69) rfl) rfl
theorem g_790 : (Cond.privateMethod ⟨"LathePiecesModel", "reachAll", "(II)V"⟩) ∈ lw_tbl := tb_4 (List.mem_of_getElem? (i := 70) rfl)
theorem g_791 : (Cond.instanceMethod ⟨"LathePiecesModel", "reachAll", "(II)V"⟩) ∈ GW := gw_4 (List.mem_of_getElem? (i := 71) rfl) rfl
theorem g_792 : (Cond.code ⟨"LathePiecesModel", "reachAll", "(II)V"⟩ prog_8_method_21_code 7 (Option.none : Option FieldType)) ∈ GW := gw_4 (List.mem_of_getElem? (i := 72) rfl) rfl
theorem g_793 : (Cond.methodLink "LathePiecesLaw" 144 ⟨"LathePiecesModel", "left", "(II)I"⟩) ∈ GW := gw_4 (List.mem_of_getElem? (i := 73) rfl) rfl
theorem g_794 : (Cond.instanceMethod ⟨"LathePiecesModel", "left", "(II)I"⟩) ∈ GW := gw_4 (List.mem_of_getElem? (i := 74) rfl) rfl
theorem g_795 : (Cond.selects "LathePiecesModel" ⟨"LathePiecesModel", "left", "(II)I"⟩ ⟨"LathePiecesModel", "left", "(II)I"⟩) ∈ GW := gw_4 (List.mem_of_getElem? (i := 75) rfl) rfl
theorem g_796 : (Cond.code ⟨"LathePiecesModel", "left", "(II)I"⟩ prog_8_method_23_code 5 (Option.some FieldType.int)) ∈ GW := gw_4 (List.mem_of_getElem? (i := 76) rfl) rfl
theorem g_797 : (Cond.methodLink "LathePiecesLaw" 148 ⟨"LathePiecesModel", "passes", "(IIII)I"⟩) ∈ GW := gw_4 (List.mem_of_getElem? (i := 77) rfl) rfl
theorem g_798 : (Cond.instanceMethod ⟨"LathePiecesModel", "passes", "(IIII)I"⟩) ∈ GW := gw_4 (List.mem_of_getElem? (i := 78) rfl) rfl
theorem g_799 : (Cond.selects "LathePiecesModel" ⟨"LathePiecesModel", "passes", "(IIII)I"⟩ ⟨"LathePiecesModel", "passes", "(IIII)I"⟩) ∈ GW := gw_4 (List.mem_of_getElem? (i := 79) rfl) rfl
theorem g_800 : (Cond.code ⟨"LathePiecesModel", "passes", "(IIII)I"⟩ prog_8_method_26_code 6 (Option.some FieldType.int)) ∈ GW := gw_4 (List.mem_of_getElem? (i := 80) rfl) rfl
theorem g_801 : (Cond.methodLink "LathePiecesModel" 142 ⟨"LathePiecesModel", "lookRough", "(IIII)V"⟩) ∈ GW := gw_4 (List.mem_of_getElem? (i := 81) rfl) rfl
theorem g_802 : (Cond.privateMethod ⟨"LathePiecesModel", "lookRough", "(IIII)V"⟩) ∈ lw_tbl := tb_4 (List.mem_of_getElem? (i := 82) rfl)
theorem g_803 : (Cond.instanceMethod ⟨"LathePiecesModel", "lookRough", "(IIII)V"⟩) ∈ GW := gw_4 (List.mem_of_getElem? (i := 83) rfl) rfl
theorem g_804 : (Cond.code ⟨"LathePiecesModel", "lookRough", "(IIII)V"⟩ prog_8_method_25_code 5 (Option.none : Option FieldType)) ∈ GW := gw_4 (List.mem_of_getElem? (i := 84) rfl) rfl
theorem g_805 : (Cond.constantLong "LathePiecesModel" 138 (100 : Int64)) ∈ GW := gw_4 (List.mem_of_getElem? (i := 85) rfl) rfl
theorem g_806 : (Cond.constantLong "LathePiecesModel" 140 (50 : Int64)) ∈ GW := gw_4 (List.mem_of_getElem? (i := 86) rfl) rfl
theorem g_807 : (Cond.methodLink "LathePiecesModel" 146 ⟨"LathePiecesModel", "wantedBelow", "(IIJ)I"⟩) ∈ GW := gw_4 (List.mem_of_getElem? (i := 87) rfl) rfl
theorem g_808 : (Cond.privateMethod ⟨"LathePiecesModel", "wantedBelow", "(IIJ)I"⟩) ∈ lw_tbl := tb_4 (List.mem_of_getElem? (i := 88) rfl)
theorem g_809 : (Cond.instanceMethod ⟨"LathePiecesModel", "wantedBelow", "(IIJ)I"⟩) ∈ GW := gw_4 (List.mem_of_getElem? (i := 89) rfl) rfl
theorem g_810 : (Cond.code ⟨"LathePiecesModel", "wantedBelow", "(IIJ)I"⟩ prog_8_method_24_code 9 (Option.some FieldType.int)) ∈ GW := gw_4 (List.mem_of_getElem? (i := 90) rfl) rfl
theorem g_811 : (Cond.methodLink "LathePiecesLaw" 152 ⟨"LathePiecesModel", "cut", "(IIIII)I"⟩) ∈ GW := gw_4 (List.mem_of_getElem? (i := 91) rfl) rfl
theorem g_812 : (Cond.instanceMethod ⟨"LathePiecesModel", "cut", "(IIIII)I"⟩) ∈ GW := gw_4 (List.mem_of_getElem? (i := 92) rfl) rfl
theorem g_813 : (Cond.selects "LathePiecesModel" ⟨"LathePiecesModel", "cut", "(IIIII)I"⟩ ⟨"LathePiecesModel", "cut", "(IIIII)I"⟩) ∈ GW := gw_4 (List.mem_of_getElem? (i := 93) rfl) rfl
theorem g_814 : (Cond.code ⟨"LathePiecesModel", "cut", "(IIIII)I"⟩ prog_8_method_27_code 6 (Option.some FieldType.int)) ∈ GW := gw_4 (List.mem_of_getElem? (i := 94) rfl) rfl
theorem g_815 : (Cond.methodLink "LathePiecesLaw" 155 ⟨"LathePiecesModel", "steady", "(III)I"⟩) ∈ GW := gw_4 (List.mem_of_getElem? (i := 95) rfl) rfl
theorem g_816 : (Cond.instanceMethod ⟨"LathePiecesModel", "steady", "(III)I"⟩) ∈ GW := gw_4 (List.mem_of_getElem? (i := 96) rfl) rfl
theorem g_817 : (Cond.selects "LathePiecesModel" ⟨"LathePiecesModel", "steady", "(III)I"⟩ ⟨"LathePiecesModel", "steady", "(III)I"⟩) ∈ GW := gw_4 (List.mem_of_getElem? (i := 97) rfl) rfl
theorem g_818 : (Cond.code ⟨"LathePiecesModel", "steady", "(III)I"⟩ prog_8_method_29_code 6 (Option.some FieldType.int)) ∈ GW := gw_4 (List.mem_of_getElem? (i := 98) rfl) rfl
theorem g_819 : (Cond.methodLink "LathePiecesModel" 150 ⟨"LathePiecesModel", "nextHeld", "(III)I"⟩) ∈ GW := gw_4 (List.mem_of_getElem? (i := 99) rfl) rfl
theorem g_820 : (Cond.privateMethod ⟨"LathePiecesModel", "nextHeld", "(III)I"⟩) ∈ lw_tbl := tb_4 (List.mem_of_getElem? (i := 100) rfl)
theorem g_821 : (Cond.instanceMethod ⟨"LathePiecesModel", "nextHeld", "(III)I"⟩) ∈ GW := gw_4 (List.mem_of_getElem? (i := 101) rfl) rfl
theorem g_822 : (Cond.code ⟨"LathePiecesModel", "nextHeld", "(III)I"⟩ prog_8_method_28_code 8 (Option.some FieldType.int)) ∈ GW := gw_4 (List.mem_of_getElem? (i := 102) rfl) rfl
theorem g_823 : (Cond.methodLink "LathePiecesLaw" 159 ⟨"LathePiecesModel", "volume", "(IZ)J"⟩) ∈ GW := gw_4 (List.mem_of_getElem? (i := 103) rfl) rfl
theorem g_824 : (Cond.instanceMethod ⟨"LathePiecesModel", "volume", "(IZ)J"⟩) ∈ GW := gw_4 (List.mem_of_getElem? (i := 104) rfl) rfl
theorem g_825 : (Cond.selects "LathePiecesModel" ⟨"LathePiecesModel", "volume", "(IZ)J"⟩ ⟨"LathePiecesModel", "volume", "(IZ)J"⟩) ∈ GW := gw_4 (List.mem_of_getElem? (i := 105) rfl) rfl
theorem g_826 : (Cond.code ⟨"LathePiecesModel", "volume", "(IZ)J"⟩ prog_8_method_30_code 9 (Option.some FieldType.long)) ∈ GW := gw_4 (List.mem_of_getElem? (i := 106) rfl) rfl
theorem g_827 : (Cond.constantLong "LathePiecesModel" 154 (314160 : Int64)) ∈ GW := gw_4 (List.mem_of_getElem? (i := 107) rfl) rfl
theorem g_828 : (Cond.constantLong "LathePiecesModel" 156 (100000 : Int64)) ∈ GW := gw_4 (List.mem_of_getElem? (i := 108) rfl) rfl
theorem g_829 : (Cond.constantLong "LathePiecesModel" 158 (314159 : Int64)) ∈ GW := gw_4 (List.mem_of_getElem? (i := 109) rfl) rfl
theorem g_830 : (Cond.methodLink "LathePiecesLaw" 162 ⟨"LathePiecesModel", "hollow", "(III)I"⟩) ∈ GW := gw_4 (List.mem_of_getElem? (i := 110) rfl) rfl
theorem g_831 : (Cond.instanceMethod ⟨"LathePiecesModel", "hollow", "(III)I"⟩) ∈ GW := gw_4 (List.mem_of_getElem? (i := 111) rfl) rfl
theorem g_832 : (Cond.selects "LathePiecesModel" ⟨"LathePiecesModel", "hollow", "(III)I"⟩ ⟨"LathePiecesModel", "hollow", "(III)I"⟩) ∈ GW := gw_4 (List.mem_of_getElem? (i := 112) rfl) rfl
theorem g_833 : (Cond.code ⟨"LathePiecesModel", "hollow", "(III)I"⟩ prog_8_method_31_code 5 (Option.some FieldType.int)) ∈ GW := gw_4 (List.mem_of_getElem? (i := 113) rfl) rfl
theorem g_834 : (Cond.methodLink "LathePiecesLaw" 165 ⟨"LathePiecesModel", "copy", "(II)I"⟩) ∈ GW := gw_4 (List.mem_of_getElem? (i := 114) rfl) rfl
theorem g_835 : (Cond.instanceMethod ⟨"LathePiecesModel", "copy", "(II)I"⟩) ∈ GW := gw_4 (List.mem_of_getElem? (i := 115) rfl) rfl
theorem g_836 : (Cond.selects "LathePiecesModel" ⟨"LathePiecesModel", "copy", "(II)I"⟩ ⟨"LathePiecesModel", "copy", "(II)I"⟩) ∈ GW := gw_4 (List.mem_of_getElem? (i := 116) rfl) rfl
theorem g_837 : (Cond.code ⟨"LathePiecesModel", "copy", "(II)I"⟩ prog_8_method_32_code 6 (Option.some FieldType.int)) ∈ GW := gw_4 (List.mem_of_getElem? (i := 117) rfl) rfl
theorem g_838 : (Cond.methodLink "LathePiecesLaw" 168 ⟨"LathePiecesModel", "ring", "()I"⟩) ∈ GW := gw_4 (List.mem_of_getElem? (i := 118) rfl) rfl
theorem g_839 : (Cond.instanceMethod ⟨"LathePiecesModel", "ring", "()I"⟩) ∈ GW := gw_4 (List.mem_of_getElem? (i := 119) rfl) rfl
theorem g_840 : (Cond.selects "LathePiecesModel" ⟨"LathePiecesModel", "ring", "()I"⟩ ⟨"LathePiecesModel", "ring", "()I"⟩) ∈ GW := gw_4 (List.mem_of_getElem? (i := 120) rfl) rfl
theorem g_841 : (Cond.code ⟨"LathePiecesModel", "ring", "()I"⟩ prog_8_method_33_code 1 (Option.some FieldType.int)) ∈ GW := gw_4 (List.mem_of_getElem? (i := 121) rfl) rfl
theorem g_842 : (Cond.methodLink "LathePiecesLaw" 171 ⟨"LathePiecesModel", "wedge", "(III)I"⟩) ∈ GW := gw_4 (List.mem_of_getElem? (i := 122) rfl) rfl
theorem g_843 : (Cond.instanceMethod ⟨"LathePiecesModel", "wedge", "(III)I"⟩) ∈ GW := gw_4 (List.mem_of_getElem? (i := 123) rfl) rfl
theorem g_844 : (Cond.selects "LathePiecesModel" ⟨"LathePiecesModel", "wedge", "(III)I"⟩ ⟨"LathePiecesModel", "wedge", "(III)I"⟩) ∈ GW := gw_4 (List.mem_of_getElem? (i := 124) rfl) rfl
theorem g_845 : (Cond.code ⟨"LathePiecesModel", "wedge", "(III)I"⟩ prog_8_method_34_code 4 (Option.some FieldType.int)) ∈ GW := gw_4 (List.mem_of_getElem? (i := 125) rfl) rfl
theorem g_846 : (Cond.constantLong "LathePiecesModel" 163 (3600 : Int64)) ∈ GW := gw_4 (List.mem_of_getElem? (i := 126) rfl) rfl
theorem g_847 : (Cond.methodLink "LathePiecesLaw" 174 ⟨"LathePiecesModel", "mitre", "(III)J"⟩) ∈ GW := gw_4 (List.mem_of_getElem? (i := 127) rfl) rfl
theorem g_848 : (Cond.instanceMethod ⟨"LathePiecesModel", "mitre", "(III)J"⟩) ∈ GW := gw_4 (List.mem_of_getElem? (i := 128) rfl) rfl
theorem g_849 : (Cond.selects "LathePiecesModel" ⟨"LathePiecesModel", "mitre", "(III)J"⟩ ⟨"LathePiecesModel", "mitre", "(III)J"⟩) ∈ GW := gw_4 (List.mem_of_getElem? (i := 129) rfl) rfl
theorem g_850 : (Cond.code ⟨"LathePiecesModel", "mitre", "(III)J"⟩ prog_8_method_36_code 5 (Option.some FieldType.long)) ∈ GW := gw_4 (List.mem_of_getElem? (i := 130) rfl) rfl
theorem g_851 : (Cond.methodLink "LathePiecesModel" 165 ⟨"LathePiecesModel", "partOf", "(JJI)J"⟩) ∈ GW := gw_4 (List.mem_of_getElem? (i := 131) rfl) rfl
theorem g_852 : (Cond.static ⟨"LathePiecesModel", "partOf", "(JJI)J"⟩) ∈ GW := gw_4 (List.mem_of_getElem? (i := 132) rfl) rfl
theorem g_853 : (Cond.code ⟨"LathePiecesModel", "partOf", "(JJI)J"⟩ prog_8_method_35_code 11 (Option.some FieldType.long)) ∈ GW := gw_4 (List.mem_of_getElem? (i := 133) rfl) rfl
theorem g_854 : (Cond.methodLink "LathePiecesLaw" 177 ⟨"LathePiecesModel", "gap", "(II)J"⟩) ∈ GW := gw_4 (List.mem_of_getElem? (i := 134) rfl) rfl
theorem g_855 : (Cond.instanceMethod ⟨"LathePiecesModel", "gap", "(II)J"⟩) ∈ GW := gw_4 (List.mem_of_getElem? (i := 135) rfl) rfl
theorem g_856 : (Cond.selects "LathePiecesModel" ⟨"LathePiecesModel", "gap", "(II)J"⟩ ⟨"LathePiecesModel", "gap", "(II)J"⟩) ∈ GW := gw_4 (List.mem_of_getElem? (i := 136) rfl) rfl
theorem g_857 : (Cond.code ⟨"LathePiecesModel", "gap", "(II)J"⟩ prog_8_method_38_code 3 (Option.some FieldType.long)) ∈ GW := gw_4 (List.mem_of_getElem? (i := 137) rfl) rfl
theorem g_858 : (Cond.methodLink "LathePiecesModel" 171 ⟨"LathePiecesModel", "gapOf", "(I)J"⟩) ∈ GW := gw_4 (List.mem_of_getElem? (i := 138) rfl) rfl
theorem g_859 : (Cond.privateMethod ⟨"LathePiecesModel", "gapOf", "(I)J"⟩) ∈ lw_tbl := tb_4 (List.mem_of_getElem? (i := 139) rfl)
theorem g_860 : (Cond.instanceMethod ⟨"LathePiecesModel", "gapOf", "(I)J"⟩) ∈ GW := gw_4 (List.mem_of_getElem? (i := 140) rfl) rfl
theorem g_861 : (Cond.code ⟨"LathePiecesModel", "gapOf", "(I)J"⟩ prog_8_method_37_code 5 (Option.some FieldType.long)) ∈ GW := gw_4 (List.mem_of_getElem? (i := 141) rfl) rfl
theorem g_862 : (Cond.constantLong "LathePiecesModel" 169 (9979200 : Int64)) ∈ GW := gw_4 (List.mem_of_getElem? (i := 142) rfl) rfl
theorem g_863 : (Cond.constantLong "LathePiecesModel" 175 (27720 : Int64)) ∈ GW := gw_4 (List.mem_of_getElem? (i := 143) rfl) rfl
theorem g_864 : (Cond.methodLink "LathePiecesLaw" 180 ⟨"LathePiecesModel", "closes", "(I)Z"⟩) ∈ GW := gw_4 (List.mem_of_getElem? (i := 144) rfl) rfl
theorem g_865 : (Cond.instanceMethod ⟨"LathePiecesModel", "closes", "(I)Z"⟩) ∈ GW := gw_4 (List.mem_of_getElem? (i := 145) rfl) rfl
theorem g_866 : (Cond.selects "LathePiecesModel" ⟨"LathePiecesModel", "closes", "(I)Z"⟩ ⟨"LathePiecesModel", "closes", "(I)Z"⟩) ∈ GW := gw_4 (List.mem_of_getElem? (i := 146) rfl) rfl
theorem g_867 : (Cond.code ⟨"LathePiecesModel", "closes", "(I)Z"⟩ prog_8_method_39_code 2 (Option.some FieldType.boolean)) ∈ GW := gw_4 (List.mem_of_getElem? (i := 147) rfl) rfl
theorem g_868 : (Cond.methodLink "LathePiecesLaw" 183 ⟨"LathePiecesModel", "flute", "(III)J"⟩) ∈ GW := gw_4 (List.mem_of_getElem? (i := 148) rfl) rfl
theorem g_869 : (Cond.instanceMethod ⟨"LathePiecesModel", "flute", "(III)J"⟩) ∈ GW := gw_4 (List.mem_of_getElem? (i := 149) rfl) rfl
theorem g_870 : (Cond.selects "LathePiecesModel" ⟨"LathePiecesModel", "flute", "(III)J"⟩ ⟨"LathePiecesModel", "flute", "(III)J"⟩) ∈ GW := gw_4 (List.mem_of_getElem? (i := 150) rfl) rfl
theorem g_871 : (Cond.code ⟨"LathePiecesModel", "flute", "(III)J"⟩ prog_8_method_40_code 4 (Option.some FieldType.long)) ∈ GW := gw_4 (List.mem_of_getElem? (i := 151) rfl) rfl
theorem g_872 : (Cond.constantLong "LathePiecesModel" 177 (1000 : Int64)) ∈ GW := gw_4 (List.mem_of_getElem? (i := 152) rfl) rfl
theorem g_873 : (Cond.constantLong "LathePiecesModel" 179 (360 : Int64)) ∈ GW := gw_4 (List.mem_of_getElem? (i := 153) rfl) rfl
theorem g_874 : (Cond.methodLink "LathePiecesLaw" 187 ⟨"LathePiecesModel", "thread", "(II)V"⟩) ∈ GW := gw_4 (List.mem_of_getElem? (i := 154) rfl) rfl
theorem g_875 : (Cond.instanceMethod ⟨"LathePiecesModel", "thread", "(II)V"⟩) ∈ GW := gw_4 (List.mem_of_getElem? (i := 155) rfl) rfl
theorem g_876 : (Cond.selects "LathePiecesModel" ⟨"LathePiecesModel", "thread", "(II)V"⟩ ⟨"LathePiecesModel", "thread", "(II)V"⟩) ∈ GW := gw_4 (List.mem_of_getElem? (i := 156) rfl) rfl
theorem g_877 : (Cond.code ⟨"LathePiecesModel", "thread", "(II)V"⟩ prog_8_method_41_code 3 (Option.none : Option FieldType)) ∈ GW := gw_4 (List.mem_of_getElem? (i := 157) rfl) rfl
theorem g_878 : (Cond.methodLink "LathePiecesLaw" 190 ⟨"LathePiecesModel", "threadAt", "(II)J"⟩) ∈ GW := gw_4 (List.mem_of_getElem? (i := 158) rfl) rfl
theorem g_879 : (Cond.instanceMethod ⟨"LathePiecesModel", "threadAt", "(II)J"⟩) ∈ GW := gw_4 (List.mem_of_getElem? (i := 159) rfl) rfl
theorem g_880 : (Cond.selects "LathePiecesModel" ⟨"LathePiecesModel", "threadAt", "(II)J"⟩ ⟨"LathePiecesModel", "threadAt", "(II)J"⟩) ∈ GW := gw_4 (List.mem_of_getElem? (i := 160) rfl) rfl
theorem g_881 : (Cond.code ⟨"LathePiecesModel", "threadAt", "(II)J"⟩ prog_8_method_42_code 3 (Option.some FieldType.long)) ∈ GW := gw_4 (List.mem_of_getElem? (i := 161) rfl) rfl
theorem g_882 : (Cond.methodLink "LathePiecesLaw" 193 ⟨"LathePiecesModel", "row", "(II)I"⟩) ∈ GW := gw_4 (List.mem_of_getElem? (i := 162) rfl) rfl
theorem g_883 : (Cond.instanceMethod ⟨"LathePiecesModel", "row", "(II)I"⟩) ∈ GW := gw_4 (List.mem_of_getElem? (i := 163) rfl) rfl
theorem g_884 : (Cond.selects "LathePiecesModel" ⟨"LathePiecesModel", "row", "(II)I"⟩ ⟨"LathePiecesModel", "row", "(II)I"⟩) ∈ GW := gw_4 (List.mem_of_getElem? (i := 164) rfl) rfl
theorem g_885 : (Cond.code ⟨"LathePiecesModel", "row", "(II)I"⟩ prog_8_method_43_code 4 (Option.some FieldType.int)) ∈ GW := gw_4 (List.mem_of_getElem? (i := 165) rfl) rfl
theorem g_886 : (Cond.constantLong "LathePiecesModel" 190 (10000 : Int64)) ∈ GW := gw_4 (List.mem_of_getElem? (i := 166) rfl) rfl
theorem g_887 : (Cond.methodLink "LathePiecesLaw" 196 ⟨"LathePiecesModel", "speed", "(II)I"⟩) ∈ GW := gw_4 (List.mem_of_getElem? (i := 167) rfl) rfl
theorem g_888 : (Cond.instanceMethod ⟨"LathePiecesModel", "speed", "(II)I"⟩) ∈ GW := gw_4 (List.mem_of_getElem? (i := 168) rfl) rfl
theorem g_889 : (Cond.selects "LathePiecesModel" ⟨"LathePiecesModel", "speed", "(II)I"⟩ ⟨"LathePiecesModel", "speed", "(II)I"⟩) ∈ GW := gw_4 (List.mem_of_getElem? (i := 169) rfl) rfl
theorem g_890 : (Cond.code ⟨"LathePiecesModel", "speed", "(II)I"⟩ prog_8_method_44_code 4 (Option.some FieldType.int)) ∈ GW := gw_4 (List.mem_of_getElem? (i := 170) rfl) rfl
theorem g_891 : (Cond.arrayClass FieldType.long) ∈ GW := gw_4 (List.mem_of_getElem? (i := 171) rfl) rfl
theorem g_892 : (Cond.sameMethod "java/lang/Throwable" "java/lang/Throwable" "fillInStackTrace" "(I)Ljava/lang/Throwable;") ∈ GW := gw_4 (List.mem_of_getElem? (i := 172) rfl) rfl
theorem gs_C_checkBehindLast : (Cond.selects "LathePieces" ⟨"LathePieces", "checkBehindLast", "(I)V"⟩ ⟨"LathePieces", "checkBehindLast", "(I)V"⟩) ∈ GW := gw_sel (List.mem_map.mpr ⟨(⟨"LathePieces", "checkBehindLast", "(I)V"⟩, 13), List.mem_append_left _ (List.mem_of_getElem? (i := 1) rfl), rfl⟩) rfl
theorem gs_C_radiusAt : (Cond.selects "LathePieces" ⟨"LathePieces", "radiusAt", "(II)I"⟩ ⟨"LathePieces", "radiusAt", "(II)I"⟩) ∈ GW := gw_sel (List.mem_map.mpr ⟨(⟨"LathePieces", "radiusAt", "(II)I"⟩, 13), List.mem_append_left _ (List.mem_of_getElem? (i := 2) rfl), rfl⟩) rfl
theorem gs_C_pieceAt : (Cond.selects "LathePieces" ⟨"LathePieces", "pieceAt", "(I)LLathePieces$Piece;"⟩ ⟨"LathePieces", "pieceAt", "(I)LLathePieces$Piece;"⟩) ∈ GW := gw_sel (List.mem_map.mpr ⟨(⟨"LathePieces", "pieceAt", "(I)LLathePieces$Piece;"⟩, 13), List.mem_append_left _ (List.mem_of_getElem? (i := 3) rfl), rfl⟩) rfl
theorem gs_C_reachOf : (Cond.selects "LathePieces" ⟨"LathePieces", "reachOf", "(II)LLathePieces$Reach;"⟩ ⟨"LathePieces", "reachOf", "(II)LLathePieces$Reach;"⟩) ∈ GW := gw_sel (List.mem_map.mpr ⟨(⟨"LathePieces", "reachOf", "(II)LLathePieces$Reach;"⟩, 13), List.mem_append_left _ (List.mem_of_getElem? (i := 4) rfl), rfl⟩) rfl
theorem gs_C_noseAt : (Cond.selects "LathePieces" ⟨"LathePieces", "noseAt", "(I)LLathePieces$Nose;"⟩ ⟨"LathePieces", "noseAt", "(I)LLathePieces$Nose;"⟩) ∈ GW := gw_sel (List.mem_map.mpr ⟨(⟨"LathePieces", "noseAt", "(I)LLathePieces$Nose;"⟩, 13), List.mem_append_left _ (List.mem_of_getElem? (i := 5) rfl), rfl⟩) rfl
theorem gs_C_ringAt : (Cond.selects "LathePieces" ⟨"LathePieces", "ringAt", "(I)LLathePieces$Ring;"⟩ ⟨"LathePieces", "ringAt", "(I)LLathePieces$Ring;"⟩) ∈ GW := gw_sel (List.mem_map.mpr ⟨(⟨"LathePieces", "ringAt", "(I)LLathePieces$Ring;"⟩, 13), List.mem_append_left _ (List.mem_of_getElem? (i := 6) rfl), rfl⟩) rfl
theorem gs_M_look : (Cond.selects "LathePiecesModel" ⟨"LathePiecesModel", "look", "(II)V"⟩ ⟨"LathePiecesModel", "look", "(II)V"⟩) ∈ GW := gw_sel (List.mem_map.mpr ⟨(⟨"LathePiecesModel", "look", "(II)V"⟩, 26), List.mem_append_left _ (List.mem_of_getElem? (i := 7) rfl), rfl⟩) rfl
theorem gs_M_lastAt : (Cond.selects "LathePiecesModel" ⟨"LathePiecesModel", "lastAt", "()I"⟩ ⟨"LathePiecesModel", "lastAt", "()I"⟩) ∈ GW := gw_sel (List.mem_map.mpr ⟨(⟨"LathePiecesModel", "lastAt", "()I"⟩, 26), List.mem_append_left _ (List.mem_of_getElem? (i := 8) rfl), rfl⟩) rfl
theorem gs_M_add : (Cond.selects "LathePiecesModel" ⟨"LathePiecesModel", "add", "(IIIII)V"⟩ ⟨"LathePiecesModel", "add", "(IIIII)V"⟩) ∈ GW := gw_sel (List.mem_map.mpr ⟨(⟨"LathePiecesModel", "add", "(IIIII)V"⟩, 26), List.mem_append_left _ (List.mem_of_getElem? (i := 9) rfl), rfl⟩) rfl
theorem gs_M_lastRadius : (Cond.selects "LathePiecesModel" ⟨"LathePiecesModel", "lastRadius", "()I"⟩ ⟨"LathePiecesModel", "lastRadius", "()I"⟩) ∈ GW := gw_sel (List.mem_map.mpr ⟨(⟨"LathePiecesModel", "lastRadius", "()I"⟩, 26), List.mem_append_left _ (List.mem_of_getElem? (i := 10) rfl), rfl⟩) rfl
theorem gs_M_onWay : (Cond.selects "LathePiecesModel" ⟨"LathePiecesModel", "onWay", "(IIII)I"⟩ ⟨"LathePiecesModel", "onWay", "(IIII)I"⟩) ∈ GW := gw_sel (List.mem_map.mpr ⟨(⟨"LathePiecesModel", "onWay", "(IIII)I"⟩, 26), List.mem_append_left _ (List.mem_of_getElem? (i := 11) rfl), rfl⟩) rfl
theorem gs_M_hasPlace : (Cond.selects "LathePiecesModel" ⟨"LathePiecesModel", "hasPlace", "(II)Z"⟩ ⟨"LathePiecesModel", "hasPlace", "(II)Z"⟩) ∈ GW := gw_sel (List.mem_map.mpr ⟨(⟨"LathePiecesModel", "hasPlace", "(II)Z"⟩, 26), List.mem_append_left _ (List.mem_of_getElem? (i := 12) rfl), rfl⟩) rfl
theorem gs_M_isPiece : (Cond.selects "LathePiecesModel" ⟨"LathePiecesModel", "isPiece", "(I)Z"⟩ ⟨"LathePiecesModel", "isPiece", "(I)Z"⟩) ∈ GW := gw_sel (List.mem_map.mpr ⟨(⟨"LathePiecesModel", "isPiece", "(I)Z"⟩, 26), List.mem_append_left _ (List.mem_of_getElem? (i := 13) rfl), rfl⟩) rfl
theorem gs_M_blank : (Cond.selects "LathePiecesModel" ⟨"LathePiecesModel", "blank", "(I)I"⟩ ⟨"LathePiecesModel", "blank", "(I)I"⟩) ∈ GW := gw_sel (List.mem_map.mpr ⟨(⟨"LathePiecesModel", "blank", "(I)I"⟩, 26), List.mem_append_left _ (List.mem_of_getElem? (i := 14) rfl), rfl⟩) rfl
theorem gs_M_reachAll : (Cond.selects "LathePiecesModel" ⟨"LathePiecesModel", "reachAll", "(II)V"⟩ ⟨"LathePiecesModel", "reachAll", "(II)V"⟩) ∈ GW := gw_sel (List.mem_map.mpr ⟨(⟨"LathePiecesModel", "reachAll", "(II)V"⟩, 26), List.mem_append_left _ (List.mem_of_getElem? (i := 15) rfl), rfl⟩) rfl
theorem gs_M_lookRough : (Cond.selects "LathePiecesModel" ⟨"LathePiecesModel", "lookRough", "(IIII)V"⟩ ⟨"LathePiecesModel", "lookRough", "(IIII)V"⟩) ∈ GW := gw_sel (List.mem_map.mpr ⟨(⟨"LathePiecesModel", "lookRough", "(IIII)V"⟩, 26), List.mem_append_right _ (List.mem_of_getElem? (i := 0) rfl), rfl⟩) rfl
theorem gs_M_wantedBelow : (Cond.selects "LathePiecesModel" ⟨"LathePiecesModel", "wantedBelow", "(IIJ)I"⟩ ⟨"LathePiecesModel", "wantedBelow", "(IIJ)I"⟩) ∈ GW := gw_sel (List.mem_map.mpr ⟨(⟨"LathePiecesModel", "wantedBelow", "(IIJ)I"⟩, 26), List.mem_append_right _ (List.mem_of_getElem? (i := 1) rfl), rfl⟩) rfl
theorem gs_M_nextHeld : (Cond.selects "LathePiecesModel" ⟨"LathePiecesModel", "nextHeld", "(III)I"⟩ ⟨"LathePiecesModel", "nextHeld", "(III)I"⟩) ∈ GW := gw_sel (List.mem_map.mpr ⟨(⟨"LathePiecesModel", "nextHeld", "(III)I"⟩, 26), List.mem_append_right _ (List.mem_of_getElem? (i := 2) rfl), rfl⟩) rfl
theorem gs_M_gapOf : (Cond.selects "LathePiecesModel" ⟨"LathePiecesModel", "gapOf", "(I)J"⟩ ⟨"LathePiecesModel", "gapOf", "(I)J"⟩) ∈ GW := gw_sel (List.mem_map.mpr ⟨(⟨"LathePiecesModel", "gapOf", "(I)J"⟩, 26), List.mem_append_right _ (List.mem_of_getElem? (i := 3) rfl), rfl⟩) rfl
theorem in_N : ∀ w ∈ u_ws R_N F_N 1, w ∈ GW := by
  intro w hw
  obtain ⟨k, hk, rfl⟩ := List.mem_map.mp hw
  have hk := List.mem_range.mp hk
  match k, hk with
  | 0, _ => exact g_357
  | k + 1, hk => exact absurd hk (by omega)
theorem in_P : ∀ w ∈ u_ws R_P F_P 4, w ∈ GW := by
  intro w hw
  obtain ⟨k, hk, rfl⟩ := List.mem_map.mp hw
  have hk := List.mem_range.mp hk
  match k, hk with
  | 0, _ => exact g_291
  | 1, _ => exact g_293
  | 2, _ => exact g_295
  | 3, _ => exact g_297
  | k + 4, hk => exact absurd hk (by omega)
theorem in_F : ∀ w ∈ u_ws R_F F_F 5, w ∈ GW := by
  intro w hw
  obtain ⟨k, hk, rfl⟩ := List.mem_map.mp hw
  have hk := List.mem_range.mp hk
  match k, hk with
  | 0, _ => exact g_42
  | 1, _ => exact g_44
  | 2, _ => exact g_46
  | 3, _ => exact g_48
  | 4, _ => exact g_50
  | k + 5, hk => exact absurd hk (by omega)
theorem in_R : ∀ w ∈ u_ws R_R F_R 1, w ∈ GW := by
  intro w hw
  obtain ⟨k, hk, rfl⟩ := List.mem_map.mp hw
  have hk := List.mem_range.mp hk
  match k, hk with
  | 0, _ => exact g_395
  | k + 1, hk => exact absurd hk (by omega)
theorem in_G : ∀ w ∈ u_ws R_G F_G 4, w ∈ GW := by
  intro w hw
  obtain ⟨k, hk, rfl⟩ := List.mem_map.mp hw
  have hk := List.mem_range.mp hk
  match k, hk with
  | 0, _ => exact g_510
  | 1, _ => exact g_512
  | 2, _ => exact g_514
  | 3, _ => exact g_516
  | k + 4, hk => exact absurd hk (by omega)
theorem in_C : ∀ w ∈ u_ws R_C F_C 13, w ∈ GW := by
  intro w hw
  obtain ⟨k, hk, rfl⟩ := List.mem_map.mp hw
  have hk := List.mem_range.mp hk
  match k, hk with
  | 0, _ => exact g_75
  | 1, _ => exact g_77
  | 2, _ => exact g_79
  | 3, _ => exact g_81
  | 4, _ => exact g_83
  | 5, _ => exact g_85
  | 6, _ => exact g_87
  | 7, _ => exact g_89
  | 8, _ => exact g_91
  | 9, _ => exact g_93
  | 10, _ => exact g_95
  | 11, _ => exact g_97
  | 12, _ => exact g_99
  | k + 13, hk => exact absurd hk (by omega)
theorem in_M : ∀ w ∈ u_ws R_M F_M 26, w ∈ GW := by
  intro w hw
  obtain ⟨k, hk, rfl⟩ := List.mem_map.mp hw
  have hk := List.mem_range.mp hk
  match k, hk with
  | 0, _ => exact g_651
  | 1, _ => exact g_653
  | 2, _ => exact g_655
  | 3, _ => exact g_657
  | 4, _ => exact g_659
  | 5, _ => exact g_661
  | 6, _ => exact g_663
  | 7, _ => exact g_665
  | 8, _ => exact g_667
  | 9, _ => exact g_669
  | 10, _ => exact g_671
  | 11, _ => exact g_673
  | 12, _ => exact g_675
  | 13, _ => exact g_677
  | 14, _ => exact g_679
  | 15, _ => exact g_681
  | 16, _ => exact g_683
  | 17, _ => exact g_685
  | 18, _ => exact g_687
  | 19, _ => exact g_689
  | 20, _ => exact g_691
  | 21, _ => exact g_693
  | 22, _ => exact g_695
  | 23, _ => exact g_697
  | 24, _ => exact g_699
  | 25, _ => exact g_701
  | k + 26, hk => exact absurd hk (by omega)
end
section
theorem d_A_copyOf_0 : decode b_A_copyOf 0 = .ok (.iload_n 1, 1) := by decide +kernel
theorem d_A_copyOf_1 : decode b_A_copyOf 1 = .ok (.aload_n 0, 1) := by decide +kernel
theorem d_A_copyOf_2 : decode b_A_copyOf 2 = .ok (.arraylength, 1) := by decide +kernel
theorem d_A_copyOf_3 : decode b_A_copyOf 3 = .ok (.if_icmp .ne 11, 3) := by decide +kernel
theorem d_A_copyOf_6 : decode b_A_copyOf 6 = .ok (.aload_n 0, 1) := by decide +kernel
theorem d_A_copyOf_7 : decode b_A_copyOf 7 = .ok (.invokevirtual 316, 3) := by decide +kernel
theorem d_A_copyOf_10 : decode b_A_copyOf 10 = .ok (.checkcast 317, 3) := by decide +kernel
theorem d_A_copyOf_13 : decode b_A_copyOf 13 = .ok (.areturn, 1) := by decide +kernel
theorem d_A_copyOf_14 : decode b_A_copyOf 14 = .ok (.iload_n 1, 1) := by decide +kernel
theorem d_A_copyOf_15 : decode b_A_copyOf 15 = .ok (.newarray .int, 2) := by decide +kernel
theorem d_A_copyOf_17 : decode b_A_copyOf 17 = .ok (.astore_n 2, 1) := by decide +kernel
theorem d_A_copyOf_18 : decode b_A_copyOf 18 = .ok (.aload_n 0, 1) := by decide +kernel
theorem d_A_copyOf_19 : decode b_A_copyOf 19 = .ok (.iconst 0, 1) := by decide +kernel
theorem d_A_copyOf_20 : decode b_A_copyOf 20 = .ok (.aload_n 2, 1) := by decide +kernel
theorem d_A_copyOf_21 : decode b_A_copyOf 21 = .ok (.iconst 0, 1) := by decide +kernel
theorem d_A_copyOf_22 : decode b_A_copyOf 22 = .ok (.aload_n 0, 1) := by decide +kernel
theorem d_A_copyOf_23 : decode b_A_copyOf 23 = .ok (.arraylength, 1) := by decide +kernel
theorem d_A_copyOf_24 : decode b_A_copyOf 24 = .ok (.iload_n 1, 1) := by decide +kernel
theorem d_A_copyOf_25 : decode b_A_copyOf 25 = .ok (.invokestatic 304, 3) := by decide +kernel
theorem d_A_copyOf_28 : decode b_A_copyOf 28 = .ok (.invokestatic 150, 3) := by decide +kernel
theorem d_A_copyOf_31 : decode b_A_copyOf 31 = .ok (.aload_n 2, 1) := by decide +kernel
theorem d_A_copyOf_32 : decode b_A_copyOf 32 = .ok (.areturn, 1) := by decide +kernel
theorem d_F_addArc_0 : decode b_F_addArc 0 = .ok (.aload_n 0, 1) := by decide +kernel
theorem d_F_addArc_1 : decode b_F_addArc 1 = .ok (.getfield 19, 3) := by decide +kernel
theorem d_F_addArc_4 : decode b_F_addArc 4 = .ok (.iload_n 3, 1) := by decide +kernel
theorem d_F_addArc_5 : decode b_F_addArc 5 = .ok (.isub, 1) := by decide +kernel
theorem d_F_addArc_6 : decode b_F_addArc 6 = .ok (.aload_n 0, 1) := by decide +kernel
theorem d_F_addArc_7 : decode b_F_addArc 7 = .ok (.getfield 23, 3) := by decide +kernel
theorem d_F_addArc_10 : decode b_F_addArc 10 = .ok (.iload 4, 2) := by decide +kernel
theorem d_F_addArc_12 : decode b_F_addArc 12 = .ok (.isub, 1) := by decide +kernel
theorem d_F_addArc_13 : decode b_F_addArc 13 = .ok (.invokestatic 39, 3) := by decide +kernel
theorem d_F_addArc_16 : decode b_F_addArc 16 = .ok (.istore 6, 2) := by decide +kernel
theorem d_F_addArc_18 : decode b_F_addArc 18 = .ok (.aload_n 0, 1) := by decide +kernel
theorem d_F_addArc_19 : decode b_F_addArc 19 = .ok (.getfield 19, 3) := by decide +kernel
theorem d_F_addArc_22 : decode b_F_addArc 22 = .ok (.iconst 1, 1) := by decide +kernel
theorem d_F_addArc_23 : decode b_F_addArc 23 = .ok (.iadd, 1) := by decide +kernel
theorem d_F_addArc_24 : decode b_F_addArc 24 = .ok (.istore 7, 2) := by decide +kernel
theorem d_F_addArc_26 : decode b_F_addArc 26 = .ok (.iload 7, 2) := by decide +kernel
theorem d_F_addArc_28 : decode b_F_addArc 28 = .ok (.iload_n 1, 1) := by decide +kernel
theorem d_F_addArc_29 : decode b_F_addArc 29 = .ok (.if_icmp .gt 68, 3) := by decide +kernel
theorem d_F_addArc_32 : decode b_F_addArc 32 = .ok (.iload 7, 2) := by decide +kernel
theorem d_F_addArc_34 : decode b_F_addArc 34 = .ok (.bipush 64, 2) := by decide +kernel
theorem d_F_addArc_36 : decode b_F_addArc 36 = .ok (.if_icmp .gt 61, 3) := by decide +kernel
theorem d_F_addArc_39 : decode b_F_addArc 39 = .ok (.iload 6, 2) := by decide +kernel
theorem d_F_addArc_41 : decode b_F_addArc 41 = .ok (.iload 7, 2) := by decide +kernel
theorem d_F_addArc_43 : decode b_F_addArc 43 = .ok (.iload_n 3, 1) := by decide +kernel
theorem d_F_addArc_44 : decode b_F_addArc 44 = .ok (.isub, 1) := by decide +kernel
theorem d_F_addArc_45 : decode b_F_addArc 45 = .ok (.iload 7, 2) := by decide +kernel
theorem d_F_addArc_47 : decode b_F_addArc 47 = .ok (.iload_n 3, 1) := by decide +kernel
theorem d_F_addArc_48 : decode b_F_addArc 48 = .ok (.isub, 1) := by decide +kernel
theorem d_F_addArc_49 : decode b_F_addArc 49 = .ok (.imul, 1) := by decide +kernel
theorem d_F_addArc_50 : decode b_F_addArc 50 = .ok (.isub, 1) := by decide +kernel
theorem d_F_addArc_51 : decode b_F_addArc 51 = .ok (.invokestatic 42, 3) := by decide +kernel
theorem d_F_addArc_54 : decode b_F_addArc 54 = .ok (.istore 8, 2) := by decide +kernel
theorem d_F_addArc_56 : decode b_F_addArc 56 = .ok (.aload_n 0, 1) := by decide +kernel
theorem d_F_addArc_57 : decode b_F_addArc 57 = .ok (.getfield 9, 3) := by decide +kernel
theorem d_F_addArc_60 : decode b_F_addArc 60 = .ok (.iload 7, 2) := by decide +kernel
theorem d_F_addArc_62 : decode b_F_addArc 62 = .ok (.iconst 0, 1) := by decide +kernel
theorem d_F_addArc_63 : decode b_F_addArc 63 = .ok (.sipush 500, 3) := by decide +kernel
theorem d_F_addArc_66 : decode b_F_addArc 66 = .ok (.iload 5, 2) := by decide +kernel
theorem d_F_addArc_68 : decode b_F_addArc 68 = .ok (.ifCond .eq 11, 3) := by decide +kernel
theorem d_F_addArc_71 : decode b_F_addArc 71 = .ok (.iload 4, 2) := by decide +kernel
theorem d_F_addArc_73 : decode b_F_addArc 73 = .ok (.iload 8, 2) := by decide +kernel
theorem d_F_addArc_75 : decode b_F_addArc 75 = .ok (.iadd, 1) := by decide +kernel
theorem d_F_addArc_76 : decode b_F_addArc 76 = .ok (.goto 8, 3) := by decide +kernel
theorem d_F_addArc_79 : decode b_F_addArc 79 = .ok (.iload 4, 2) := by decide +kernel
theorem d_F_addArc_81 : decode b_F_addArc 81 = .ok (.iload 8, 2) := by decide +kernel
theorem d_F_addArc_83 : decode b_F_addArc 83 = .ok (.isub, 1) := by decide +kernel
theorem d_F_addArc_84 : decode b_F_addArc 84 = .ok (.invokestatic 46, 3) := by decide +kernel
theorem d_F_addArc_87 : decode b_F_addArc 87 = .ok (.invokestatic 49, 3) := by decide +kernel
theorem d_F_addArc_90 : decode b_F_addArc 90 = .ok (.iastore, 1) := by decide +kernel
theorem d_F_addArc_91 : decode b_F_addArc 91 = .ok (.iinc 7 1, 3) := by decide +kernel
theorem d_F_addArc_94 : decode b_F_addArc 94 = .ok (.goto (-68), 3) := by decide +kernel
theorem d_F_addArc_97 : decode b_F_addArc 97 = .ok (.aload_n 0, 1) := by decide +kernel
theorem d_F_addArc_98 : decode b_F_addArc 98 = .ok (.iload_n 1, 1) := by decide +kernel
theorem d_F_addArc_99 : decode b_F_addArc 99 = .ok (.iload_n 2, 1) := by decide +kernel
theorem d_F_addArc_100 : decode b_F_addArc 100 = .ok (.invokevirtual 35, 3) := by decide +kernel
theorem d_F_addArc_103 : decode b_F_addArc 103 = .ok (.return_, 1) := by decide +kernel
theorem d_F_addLine_0 : decode b_F_addLine 0 = .ok (.iload_n 2, 1) := by decide +kernel
theorem d_F_addLine_1 : decode b_F_addLine 1 = .ok (.aload_n 0, 1) := by decide +kernel
theorem d_F_addLine_2 : decode b_F_addLine 2 = .ok (.getfield 23, 3) := by decide +kernel
theorem d_F_addLine_5 : decode b_F_addLine 5 = .ok (.isub, 1) := by decide +kernel
theorem d_F_addLine_6 : decode b_F_addLine 6 = .ok (.istore_n 3, 1) := by decide +kernel
theorem d_F_addLine_7 : decode b_F_addLine 7 = .ok (.aload_n 0, 1) := by decide +kernel
theorem d_F_addLine_8 : decode b_F_addLine 8 = .ok (.getfield 19, 3) := by decide +kernel
theorem d_F_addLine_11 : decode b_F_addLine 11 = .ok (.iconst 1, 1) := by decide +kernel
theorem d_F_addLine_12 : decode b_F_addLine 12 = .ok (.iadd, 1) := by decide +kernel
theorem d_F_addLine_13 : decode b_F_addLine 13 = .ok (.istore 4, 2) := by decide +kernel
theorem d_F_addLine_15 : decode b_F_addLine 15 = .ok (.iload 4, 2) := by decide +kernel
theorem d_F_addLine_17 : decode b_F_addLine 17 = .ok (.iload_n 1, 1) := by decide +kernel
theorem d_F_addLine_18 : decode b_F_addLine 18 = .ok (.if_icmp .gt 46, 3) := by decide +kernel
theorem d_F_addLine_21 : decode b_F_addLine 21 = .ok (.iload 4, 2) := by decide +kernel
theorem d_F_addLine_23 : decode b_F_addLine 23 = .ok (.bipush 64, 2) := by decide +kernel
theorem d_F_addLine_25 : decode b_F_addLine 25 = .ok (.if_icmp .gt 39, 3) := by decide +kernel
theorem d_F_addLine_28 : decode b_F_addLine 28 = .ok (.aload_n 0, 1) := by decide +kernel
theorem d_F_addLine_29 : decode b_F_addLine 29 = .ok (.getfield 9, 3) := by decide +kernel
theorem d_F_addLine_32 : decode b_F_addLine 32 = .ok (.iload 4, 2) := by decide +kernel
theorem d_F_addLine_34 : decode b_F_addLine 34 = .ok (.aload_n 0, 1) := by decide +kernel
theorem d_F_addLine_35 : decode b_F_addLine 35 = .ok (.getfield 23, 3) := by decide +kernel
theorem d_F_addLine_38 : decode b_F_addLine 38 = .ok (.iload 4, 2) := by decide +kernel
theorem d_F_addLine_40 : decode b_F_addLine 40 = .ok (.aload_n 0, 1) := by decide +kernel
theorem d_F_addLine_41 : decode b_F_addLine 41 = .ok (.getfield 19, 3) := by decide +kernel
theorem d_F_addLine_44 : decode b_F_addLine 44 = .ok (.isub, 1) := by decide +kernel
theorem d_F_addLine_45 : decode b_F_addLine 45 = .ok (.iload_n 3, 1) := by decide +kernel
theorem d_F_addLine_46 : decode b_F_addLine 46 = .ok (.imul, 1) := by decide +kernel
theorem d_F_addLine_47 : decode b_F_addLine 47 = .ok (.iload_n 1, 1) := by decide +kernel
theorem d_F_addLine_48 : decode b_F_addLine 48 = .ok (.aload_n 0, 1) := by decide +kernel
theorem d_F_addLine_49 : decode b_F_addLine 49 = .ok (.getfield 19, 3) := by decide +kernel
theorem d_F_addLine_52 : decode b_F_addLine 52 = .ok (.isub, 1) := by decide +kernel
theorem d_F_addLine_53 : decode b_F_addLine 53 = .ok (.invokestatic 29, 3) := by decide +kernel
theorem d_F_addLine_56 : decode b_F_addLine 56 = .ok (.iadd, 1) := by decide +kernel
theorem d_F_addLine_57 : decode b_F_addLine 57 = .ok (.iastore, 1) := by decide +kernel
theorem d_F_addLine_58 : decode b_F_addLine 58 = .ok (.iinc 4 1, 3) := by decide +kernel
theorem d_F_addLine_61 : decode b_F_addLine 61 = .ok (.goto (-46), 3) := by decide +kernel
theorem d_F_addLine_64 : decode b_F_addLine 64 = .ok (.aload_n 0, 1) := by decide +kernel
theorem d_F_addLine_65 : decode b_F_addLine 65 = .ok (.iload_n 1, 1) := by decide +kernel
theorem d_F_addLine_66 : decode b_F_addLine 66 = .ok (.iload_n 2, 1) := by decide +kernel
theorem d_F_addLine_67 : decode b_F_addLine 67 = .ok (.invokevirtual 35, 3) := by decide +kernel
theorem d_F_addLine_70 : decode b_F_addLine 70 = .ok (.return_, 1) := by decide +kernel
theorem d_F_arcFits_0 : decode b_F_arcFits 0 = .ok (.aload_n 0, 1) := by decide +kernel
theorem d_F_arcFits_1 : decode b_F_arcFits 1 = .ok (.getfield 19, 3) := by decide +kernel
theorem d_F_arcFits_4 : decode b_F_arcFits 4 = .ok (.iload_n 3, 1) := by decide +kernel
theorem d_F_arcFits_5 : decode b_F_arcFits 5 = .ok (.isub, 1) := by decide +kernel
theorem d_F_arcFits_6 : decode b_F_arcFits 6 = .ok (.aload_n 0, 1) := by decide +kernel
theorem d_F_arcFits_7 : decode b_F_arcFits 7 = .ok (.getfield 23, 3) := by decide +kernel
theorem d_F_arcFits_10 : decode b_F_arcFits 10 = .ok (.iload 4, 2) := by decide +kernel
theorem d_F_arcFits_12 : decode b_F_arcFits 12 = .ok (.isub, 1) := by decide +kernel
theorem d_F_arcFits_13 : decode b_F_arcFits 13 = .ok (.invokestatic 39, 3) := by decide +kernel
theorem d_F_arcFits_16 : decode b_F_arcFits 16 = .ok (.iload_n 1, 1) := by decide +kernel
theorem d_F_arcFits_17 : decode b_F_arcFits 17 = .ok (.iload_n 3, 1) := by decide +kernel
theorem d_F_arcFits_18 : decode b_F_arcFits 18 = .ok (.isub, 1) := by decide +kernel
theorem d_F_arcFits_19 : decode b_F_arcFits 19 = .ok (.iload_n 2, 1) := by decide +kernel
theorem d_F_arcFits_20 : decode b_F_arcFits 20 = .ok (.iload 4, 2) := by decide +kernel
theorem d_F_arcFits_22 : decode b_F_arcFits 22 = .ok (.isub, 1) := by decide +kernel
theorem d_F_arcFits_23 : decode b_F_arcFits 23 = .ok (.invokestatic 39, 3) := by decide +kernel
theorem d_F_arcFits_26 : decode b_F_arcFits 26 = .ok (.if_icmp .ne 7, 3) := by decide +kernel
theorem d_F_arcFits_29 : decode b_F_arcFits 29 = .ok (.iconst 1, 1) := by decide +kernel
theorem d_F_arcFits_30 : decode b_F_arcFits 30 = .ok (.goto 4, 3) := by decide +kernel
theorem d_F_arcFits_33 : decode b_F_arcFits 33 = .ok (.iconst 0, 1) := by decide +kernel
theorem d_F_arcFits_34 : decode b_F_arcFits 34 = .ok (.istore 6, 2) := by decide +kernel
theorem d_F_arcFits_36 : decode b_F_arcFits 36 = .ok (.iload 5, 2) := by decide +kernel
theorem d_F_arcFits_38 : decode b_F_arcFits 38 = .ok (.ifCond .eq 26, 3) := by decide +kernel
theorem d_F_arcFits_41 : decode b_F_arcFits 41 = .ok (.aload_n 0, 1) := by decide +kernel
theorem d_F_arcFits_42 : decode b_F_arcFits 42 = .ok (.getfield 23, 3) := by decide +kernel
theorem d_F_arcFits_45 : decode b_F_arcFits 45 = .ok (.iload 4, 2) := by decide +kernel
theorem d_F_arcFits_47 : decode b_F_arcFits 47 = .ok (.if_icmp .lt 13, 3) := by decide +kernel
theorem d_F_arcFits_50 : decode b_F_arcFits 50 = .ok (.iload_n 2, 1) := by decide +kernel
theorem d_F_arcFits_51 : decode b_F_arcFits 51 = .ok (.iload 4, 2) := by decide +kernel
theorem d_F_arcFits_53 : decode b_F_arcFits 53 = .ok (.if_icmp .lt 7, 3) := by decide +kernel
theorem d_F_arcFits_56 : decode b_F_arcFits 56 = .ok (.iconst 1, 1) := by decide +kernel
theorem d_F_arcFits_57 : decode b_F_arcFits 57 = .ok (.goto 27, 3) := by decide +kernel
theorem d_F_arcFits_60 : decode b_F_arcFits 60 = .ok (.iconst 0, 1) := by decide +kernel
theorem d_F_arcFits_61 : decode b_F_arcFits 61 = .ok (.goto 23, 3) := by decide +kernel
theorem d_F_arcFits_64 : decode b_F_arcFits 64 = .ok (.aload_n 0, 1) := by decide +kernel
theorem d_F_arcFits_65 : decode b_F_arcFits 65 = .ok (.getfield 23, 3) := by decide +kernel
theorem d_F_arcFits_68 : decode b_F_arcFits 68 = .ok (.iload 4, 2) := by decide +kernel
theorem d_F_arcFits_70 : decode b_F_arcFits 70 = .ok (.if_icmp .gt 13, 3) := by decide +kernel
theorem d_F_arcFits_73 : decode b_F_arcFits 73 = .ok (.iload_n 2, 1) := by decide +kernel
theorem d_F_arcFits_74 : decode b_F_arcFits 74 = .ok (.iload 4, 2) := by decide +kernel
theorem d_F_arcFits_76 : decode b_F_arcFits 76 = .ok (.if_icmp .gt 7, 3) := by decide +kernel
theorem d_F_arcFits_79 : decode b_F_arcFits 79 = .ok (.iconst 1, 1) := by decide +kernel
theorem d_F_arcFits_80 : decode b_F_arcFits 80 = .ok (.goto 4, 3) := by decide +kernel
theorem d_F_arcFits_83 : decode b_F_arcFits 83 = .ok (.iconst 0, 1) := by decide +kernel
theorem d_F_arcFits_84 : decode b_F_arcFits 84 = .ok (.istore 7, 2) := by decide +kernel
theorem d_F_arcFits_86 : decode b_F_arcFits 86 = .ok (.iload 6, 2) := by decide +kernel
theorem d_F_arcFits_88 : decode b_F_arcFits 88 = .ok (.ifCond .eq 12, 3) := by decide +kernel
theorem d_F_arcFits_91 : decode b_F_arcFits 91 = .ok (.iload 7, 2) := by decide +kernel
theorem d_F_arcFits_93 : decode b_F_arcFits 93 = .ok (.ifCond .eq 7, 3) := by decide +kernel
theorem d_F_arcFits_96 : decode b_F_arcFits 96 = .ok (.iconst 1, 1) := by decide +kernel
theorem d_F_arcFits_97 : decode b_F_arcFits 97 = .ok (.goto 4, 3) := by decide +kernel
theorem d_F_arcFits_100 : decode b_F_arcFits 100 = .ok (.iconst 0, 1) := by decide +kernel
theorem d_F_arcFits_101 : decode b_F_arcFits 101 = .ok (.ireturn, 1) := by decide +kernel
theorem d_F_begin_0 : decode b_F_begin 0 = .ok (.aload_n 0, 1) := by decide +kernel
theorem d_F_begin_1 : decode b_F_begin 1 = .ok (.iconst 1, 1) := by decide +kernel
theorem d_F_begin_2 : decode b_F_begin 2 = .ok (.putfield 15, 3) := by decide +kernel
theorem d_F_begin_5 : decode b_F_begin 5 = .ok (.aload_n 0, 1) := by decide +kernel
theorem d_F_begin_6 : decode b_F_begin 6 = .ok (.iconst 0, 1) := by decide +kernel
theorem d_F_begin_7 : decode b_F_begin 7 = .ok (.putfield 19, 3) := by decide +kernel
theorem d_F_begin_10 : decode b_F_begin 10 = .ok (.aload_n 0, 1) := by decide +kernel
theorem d_F_begin_11 : decode b_F_begin 11 = .ok (.iload_n 1, 1) := by decide +kernel
theorem d_F_begin_12 : decode b_F_begin 12 = .ok (.putfield 23, 3) := by decide +kernel
theorem d_F_begin_15 : decode b_F_begin 15 = .ok (.aload_n 0, 1) := by decide +kernel
theorem d_F_begin_16 : decode b_F_begin 16 = .ok (.iconst 0, 1) := by decide +kernel
theorem d_F_begin_17 : decode b_F_begin 17 = .ok (.putfield 26, 3) := by decide +kernel
theorem d_F_begin_20 : decode b_F_begin 20 = .ok (.aload_n 0, 1) := by decide +kernel
theorem d_F_begin_21 : decode b_F_begin 21 = .ok (.getfield 9, 3) := by decide +kernel
theorem d_F_begin_24 : decode b_F_begin 24 = .ok (.iconst 0, 1) := by decide +kernel
theorem d_F_begin_25 : decode b_F_begin 25 = .ok (.iload_n 1, 1) := by decide +kernel
theorem d_F_begin_26 : decode b_F_begin 26 = .ok (.iastore, 1) := by decide +kernel
theorem d_F_begin_27 : decode b_F_begin 27 = .ok (.return_, 1) := by decide +kernel
theorem d_F_goOnFrom_0 : decode b_F_goOnFrom 0 = .ok (.aload_n 0, 1) := by decide +kernel
theorem d_F_goOnFrom_1 : decode b_F_goOnFrom 1 = .ok (.iload_n 1, 1) := by decide +kernel
theorem d_F_goOnFrom_2 : decode b_F_goOnFrom 2 = .ok (.putfield 19, 3) := by decide +kernel
theorem d_F_goOnFrom_5 : decode b_F_goOnFrom 5 = .ok (.aload_n 0, 1) := by decide +kernel
theorem d_F_goOnFrom_6 : decode b_F_goOnFrom 6 = .ok (.iload_n 2, 1) := by decide +kernel
theorem d_F_goOnFrom_7 : decode b_F_goOnFrom 7 = .ok (.putfield 23, 3) := by decide +kernel
theorem d_F_goOnFrom_10 : decode b_F_goOnFrom 10 = .ok (.aload_n 0, 1) := by decide +kernel
theorem d_F_goOnFrom_11 : decode b_F_goOnFrom 11 = .ok (.dup, 1) := by decide +kernel
theorem d_F_goOnFrom_12 : decode b_F_goOnFrom 12 = .ok (.getfield 26, 3) := by decide +kernel
theorem d_F_goOnFrom_15 : decode b_F_goOnFrom 15 = .ok (.iconst 1, 1) := by decide +kernel
theorem d_F_goOnFrom_16 : decode b_F_goOnFrom 16 = .ok (.iadd, 1) := by decide +kernel
theorem d_F_goOnFrom_17 : decode b_F_goOnFrom 17 = .ok (.putfield 26, 3) := by decide +kernel
theorem d_F_goOnFrom_20 : decode b_F_goOnFrom 20 = .ok (.return_, 1) := by decide +kernel
theorem d_F_init_0 : decode b_F_init 0 = .ok (.aload_n 0, 1) := by decide +kernel
theorem d_F_init_1 : decode b_F_init 1 = .ok (.invokespecial 3, 3) := by decide +kernel
theorem d_F_init_4 : decode b_F_init 4 = .ok (.aload_n 0, 1) := by decide +kernel
theorem d_F_init_5 : decode b_F_init 5 = .ok (.bipush 65, 2) := by decide +kernel
theorem d_F_init_7 : decode b_F_init 7 = .ok (.newarray .int, 2) := by decide +kernel
theorem d_F_init_9 : decode b_F_init 9 = .ok (.putfield 9, 3) := by decide +kernel
theorem d_F_init_12 : decode b_F_init 12 = .ok (.return_, 1) := by decide +kernel
theorem d_F_squareFar_0 : decode b_F_squareFar 0 = .ok (.iload_n 0, 1) := by decide +kernel
theorem d_F_squareFar_1 : decode b_F_squareFar 1 = .ok (.iload_n 0, 1) := by decide +kernel
theorem d_F_squareFar_2 : decode b_F_squareFar 2 = .ok (.imul, 1) := by decide +kernel
theorem d_F_squareFar_3 : decode b_F_squareFar 3 = .ok (.iload_n 1, 1) := by decide +kernel
theorem d_F_squareFar_4 : decode b_F_squareFar 4 = .ok (.iload_n 1, 1) := by decide +kernel
theorem d_F_squareFar_5 : decode b_F_squareFar 5 = .ok (.imul, 1) := by decide +kernel
theorem d_F_squareFar_6 : decode b_F_squareFar 6 = .ok (.iadd, 1) := by decide +kernel
theorem d_F_squareFar_7 : decode b_F_squareFar 7 = .ok (.ireturn, 1) := by decide +kernel
theorem d_G_addWedge_0 : decode b_G_addWedge 0 = .ok (.aload_n 0, 1) := by decide +kernel
theorem d_G_addWedge_1 : decode b_G_addWedge 1 = .ok (.getfield 9, 3) := by decide +kernel
theorem d_G_addWedge_4 : decode b_G_addWedge 4 = .ok (.aload_n 0, 1) := by decide +kernel
theorem d_G_addWedge_5 : decode b_G_addWedge 5 = .ok (.getfield 18, 3) := by decide +kernel
theorem d_G_addWedge_8 : decode b_G_addWedge 8 = .ok (.iload_n 1, 1) := by decide +kernel
theorem d_G_addWedge_9 : decode b_G_addWedge 9 = .ok (.iastore, 1) := by decide +kernel
theorem d_G_addWedge_10 : decode b_G_addWedge 10 = .ok (.aload_n 0, 1) := by decide +kernel
theorem d_G_addWedge_11 : decode b_G_addWedge 11 = .ok (.getfield 15, 3) := by decide +kernel
theorem d_G_addWedge_14 : decode b_G_addWedge 14 = .ok (.aload_n 0, 1) := by decide +kernel
theorem d_G_addWedge_15 : decode b_G_addWedge 15 = .ok (.getfield 18, 3) := by decide +kernel
theorem d_G_addWedge_18 : decode b_G_addWedge 18 = .ok (.iload_n 2, 1) := by decide +kernel
theorem d_G_addWedge_19 : decode b_G_addWedge 19 = .ok (.iastore, 1) := by decide +kernel
theorem d_G_addWedge_20 : decode b_G_addWedge 20 = .ok (.aload_n 0, 1) := by decide +kernel
theorem d_G_addWedge_21 : decode b_G_addWedge 21 = .ok (.dup, 1) := by decide +kernel
theorem d_G_addWedge_22 : decode b_G_addWedge 22 = .ok (.getfield 18, 3) := by decide +kernel
theorem d_G_addWedge_25 : decode b_G_addWedge 25 = .ok (.iconst 1, 1) := by decide +kernel
theorem d_G_addWedge_26 : decode b_G_addWedge 26 = .ok (.iadd, 1) := by decide +kernel
theorem d_G_addWedge_27 : decode b_G_addWedge 27 = .ok (.putfield 18, 3) := by decide +kernel
theorem d_G_addWedge_30 : decode b_G_addWedge 30 = .ok (.aload_n 0, 1) := by decide +kernel
theorem d_G_addWedge_31 : decode b_G_addWedge 31 = .ok (.dup, 1) := by decide +kernel
theorem d_G_addWedge_32 : decode b_G_addWedge 32 = .ok (.getfield 22, 3) := by decide +kernel
theorem d_G_addWedge_35 : decode b_G_addWedge 35 = .ok (.iload_n 1, 1) := by decide +kernel
theorem d_G_addWedge_36 : decode b_G_addWedge 36 = .ok (.i2l, 1) := by decide +kernel
theorem d_G_addWedge_37 : decode b_G_addWedge 37 = .ok (.sipush 27720, 3) := by decide +kernel
theorem d_G_addWedge_40 : decode b_G_addWedge 40 = .ok (.iload_n 2, 1) := by decide +kernel
theorem d_G_addWedge_41 : decode b_G_addWedge 41 = .ok (.idiv, 1) := by decide +kernel
theorem d_G_addWedge_42 : decode b_G_addWedge 42 = .ok (.i2l, 1) := by decide +kernel
theorem d_G_addWedge_43 : decode b_G_addWedge 43 = .ok (.lmul, 1) := by decide +kernel
theorem d_G_addWedge_44 : decode b_G_addWedge 44 = .ok (.ladd, 1) := by decide +kernel
theorem d_G_addWedge_45 : decode b_G_addWedge 45 = .ok (.putfield 22, 3) := by decide +kernel
theorem d_G_addWedge_48 : decode b_G_addWedge 48 = .ok (.return_, 1) := by decide +kernel
theorem d_G_gapParts_0 : decode b_G_gapParts 0 = .ok (.ldc2_w 26, 3) := by decide +kernel
theorem d_G_gapParts_3 : decode b_G_gapParts 3 = .ok (.aload_n 0, 1) := by decide +kernel
theorem d_G_gapParts_4 : decode b_G_gapParts 4 = .ok (.getfield 22, 3) := by decide +kernel
theorem d_G_gapParts_7 : decode b_G_gapParts 7 = .ok (.lsub, 1) := by decide +kernel
theorem d_G_gapParts_8 : decode b_G_gapParts 8 = .ok (.lreturn, 1) := by decide +kernel
theorem d_G_init_0 : decode b_G_init 0 = .ok (.aload_n 0, 1) := by decide +kernel
theorem d_G_init_1 : decode b_G_init 1 = .ok (.invokespecial 3, 3) := by decide +kernel
theorem d_G_init_4 : decode b_G_init 4 = .ok (.aload_n 0, 1) := by decide +kernel
theorem d_G_init_5 : decode b_G_init 5 = .ok (.bipush 16, 2) := by decide +kernel
theorem d_G_init_7 : decode b_G_init 7 = .ok (.newarray .int, 2) := by decide +kernel
theorem d_G_init_9 : decode b_G_init 9 = .ok (.putfield 9, 3) := by decide +kernel
theorem d_G_init_12 : decode b_G_init 12 = .ok (.aload_n 0, 1) := by decide +kernel
theorem d_G_init_13 : decode b_G_init 13 = .ok (.bipush 16, 2) := by decide +kernel
theorem d_G_init_15 : decode b_G_init 15 = .ok (.newarray .int, 2) := by decide +kernel
theorem d_G_init_17 : decode b_G_init 17 = .ok (.putfield 15, 3) := by decide +kernel
theorem d_G_init_20 : decode b_G_init 20 = .ok (.return_, 1) := by decide +kernel
theorem d_J_abs_0 : decode b_J_abs 0 = .ok (.iload_n 0, 1) := by decide +kernel
theorem d_J_abs_1 : decode b_J_abs 1 = .ok (.ifCond .ge 8, 3) := by decide +kernel
theorem d_J_abs_4 : decode b_J_abs 4 = .ok (.iload_n 0, 1) := by decide +kernel
theorem d_J_abs_5 : decode b_J_abs 5 = .ok (.ineg, 1) := by decide +kernel
theorem d_J_abs_6 : decode b_J_abs 6 = .ok (.goto 4, 3) := by decide +kernel
theorem d_J_abs_9 : decode b_J_abs 9 = .ok (.iload_n 0, 1) := by decide +kernel
theorem d_J_abs_10 : decode b_J_abs 10 = .ok (.ireturn, 1) := by decide +kernel
theorem d_J_abs_JJ_0 : decode b_J_abs_JJ 0 = .ok (.lload_n 0, 1) := by decide +kernel
theorem d_J_abs_JJ_1 : decode b_J_abs_JJ 1 = .ok (.lconst 0, 1) := by decide +kernel
theorem d_J_abs_JJ_2 : decode b_J_abs_JJ 2 = .ok (.lcmp, 1) := by decide +kernel
theorem d_J_abs_JJ_3 : decode b_J_abs_JJ 3 = .ok (.ifCond .ge 8, 3) := by decide +kernel
theorem d_J_abs_JJ_6 : decode b_J_abs_JJ 6 = .ok (.lload_n 0, 1) := by decide +kernel
theorem d_J_abs_JJ_7 : decode b_J_abs_JJ 7 = .ok (.lneg, 1) := by decide +kernel
theorem d_J_abs_JJ_8 : decode b_J_abs_JJ 8 = .ok (.goto 4, 3) := by decide +kernel
theorem d_J_abs_JJ_11 : decode b_J_abs_JJ 11 = .ok (.lload_n 0, 1) := by decide +kernel
theorem d_J_abs_JJ_12 : decode b_J_abs_JJ 12 = .ok (.lreturn, 1) := by decide +kernel
theorem d_J_floorDiv_0 : decode b_J_floorDiv 0 = .ok (.iload_n 0, 1) := by decide +kernel
theorem d_J_floorDiv_1 : decode b_J_floorDiv 1 = .ok (.iload_n 1, 1) := by decide +kernel
theorem d_J_floorDiv_2 : decode b_J_floorDiv 2 = .ok (.idiv, 1) := by decide +kernel
theorem d_J_floorDiv_3 : decode b_J_floorDiv 3 = .ok (.istore_n 2, 1) := by decide +kernel
theorem d_J_floorDiv_4 : decode b_J_floorDiv 4 = .ok (.iload_n 0, 1) := by decide +kernel
theorem d_J_floorDiv_5 : decode b_J_floorDiv 5 = .ok (.iload_n 1, 1) := by decide +kernel
theorem d_J_floorDiv_6 : decode b_J_floorDiv 6 = .ok (.ixor, 1) := by decide +kernel
theorem d_J_floorDiv_7 : decode b_J_floorDiv 7 = .ok (.ifCond .ge 14, 3) := by decide +kernel
theorem d_J_floorDiv_10 : decode b_J_floorDiv 10 = .ok (.iload_n 2, 1) := by decide +kernel
theorem d_J_floorDiv_11 : decode b_J_floorDiv 11 = .ok (.iload_n 1, 1) := by decide +kernel
theorem d_J_floorDiv_12 : decode b_J_floorDiv 12 = .ok (.imul, 1) := by decide +kernel
theorem d_J_floorDiv_13 : decode b_J_floorDiv 13 = .ok (.iload_n 0, 1) := by decide +kernel
theorem d_J_floorDiv_14 : decode b_J_floorDiv 14 = .ok (.if_icmp .eq 7, 3) := by decide +kernel
theorem d_J_floorDiv_17 : decode b_J_floorDiv 17 = .ok (.iload_n 2, 1) := by decide +kernel
theorem d_J_floorDiv_18 : decode b_J_floorDiv 18 = .ok (.iconst 1, 1) := by decide +kernel
theorem d_J_floorDiv_19 : decode b_J_floorDiv 19 = .ok (.isub, 1) := by decide +kernel
theorem d_J_floorDiv_20 : decode b_J_floorDiv 20 = .ok (.ireturn, 1) := by decide +kernel
theorem d_J_floorDiv_21 : decode b_J_floorDiv 21 = .ok (.iload_n 2, 1) := by decide +kernel
theorem d_J_floorDiv_22 : decode b_J_floorDiv 22 = .ok (.ireturn, 1) := by decide +kernel
theorem d_J_max_0 : decode b_J_max 0 = .ok (.iload_n 0, 1) := by decide +kernel
theorem d_J_max_1 : decode b_J_max 1 = .ok (.iload_n 1, 1) := by decide +kernel
theorem d_J_max_2 : decode b_J_max 2 = .ok (.if_icmp .lt 7, 3) := by decide +kernel
theorem d_J_max_5 : decode b_J_max 5 = .ok (.iload_n 0, 1) := by decide +kernel
theorem d_J_max_6 : decode b_J_max 6 = .ok (.goto 4, 3) := by decide +kernel
theorem d_J_max_9 : decode b_J_max 9 = .ok (.iload_n 1, 1) := by decide +kernel
theorem d_J_max_10 : decode b_J_max 10 = .ok (.ireturn, 1) := by decide +kernel
theorem d_J_min_0 : decode b_J_min 0 = .ok (.iload_n 0, 1) := by decide +kernel
theorem d_J_min_1 : decode b_J_min 1 = .ok (.iload_n 1, 1) := by decide +kernel
theorem d_J_min_2 : decode b_J_min 2 = .ok (.if_icmp .gt 7, 3) := by decide +kernel
theorem d_J_min_5 : decode b_J_min 5 = .ok (.iload_n 0, 1) := by decide +kernel
theorem d_J_min_6 : decode b_J_min 6 = .ok (.goto 4, 3) := by decide +kernel
theorem d_J_min_9 : decode b_J_min 9 = .ok (.iload_n 1, 1) := by decide +kernel
theorem d_J_min_10 : decode b_J_min 10 = .ok (.ireturn, 1) := by decide +kernel
theorem d_N_init_0 : decode b_N_init 0 = .ok (.aload_n 0, 1) := by decide +kernel
theorem d_N_init_1 : decode b_N_init 1 = .ok (.invokespecial 1, 3) := by decide +kernel
theorem d_N_init_4 : decode b_N_init 4 = .ok (.aload_n 0, 1) := by decide +kernel
theorem d_N_init_5 : decode b_N_init 5 = .ok (.iload_n 1, 1) := by decide +kernel
theorem d_N_init_6 : decode b_N_init 6 = .ok (.iconst 1, 1) := by decide +kernel
theorem d_N_init_7 : decode b_N_init 7 = .ok (.iadd, 1) := by decide +kernel
theorem d_N_init_8 : decode b_N_init 8 = .ok (.newarray .int, 2) := by decide +kernel
theorem d_N_init_10 : decode b_N_init 10 = .ok (.putfield 7, 3) := by decide +kernel
theorem d_N_init_13 : decode b_N_init 13 = .ok (.iconst 0, 1) := by decide +kernel
theorem d_N_init_14 : decode b_N_init 14 = .ok (.istore_n 2, 1) := by decide +kernel
theorem d_N_init_15 : decode b_N_init 15 = .ok (.iload_n 2, 1) := by decide +kernel
theorem d_N_init_16 : decode b_N_init 16 = .ok (.iload_n 1, 1) := by decide +kernel
theorem d_N_init_17 : decode b_N_init 17 = .ok (.if_icmp .gt 25, 3) := by decide +kernel
theorem d_N_init_20 : decode b_N_init 20 = .ok (.aload_n 0, 1) := by decide +kernel
theorem d_N_init_21 : decode b_N_init 21 = .ok (.getfield 7, 3) := by decide +kernel
theorem d_N_init_24 : decode b_N_init 24 = .ok (.iload_n 2, 1) := by decide +kernel
theorem d_N_init_25 : decode b_N_init 25 = .ok (.iload_n 1, 1) := by decide +kernel
theorem d_N_init_26 : decode b_N_init 26 = .ok (.iload_n 1, 1) := by decide +kernel
theorem d_N_init_27 : decode b_N_init 27 = .ok (.imul, 1) := by decide +kernel
theorem d_N_init_28 : decode b_N_init 28 = .ok (.iload_n 2, 1) := by decide +kernel
theorem d_N_init_29 : decode b_N_init 29 = .ok (.iload_n 2, 1) := by decide +kernel
theorem d_N_init_30 : decode b_N_init 30 = .ok (.imul, 1) := by decide +kernel
theorem d_N_init_31 : decode b_N_init 31 = .ok (.isub, 1) := by decide +kernel
theorem d_N_init_32 : decode b_N_init 32 = .ok (.invokestatic 13, 3) := by decide +kernel
theorem d_N_init_35 : decode b_N_init 35 = .ok (.iastore, 1) := by decide +kernel
theorem d_N_init_36 : decode b_N_init 36 = .ok (.iinc 2 1, 3) := by decide +kernel
theorem d_N_init_39 : decode b_N_init 39 = .ok (.goto (-24), 3) := by decide +kernel
theorem d_N_init_42 : decode b_N_init 42 = .ok (.return_, 1) := by decide +kernel
theorem d_P_greatestDifference_0 : decode b_P_greatestDifference 0 = .ok (.iconst 0, 1) := by decide +kernel
theorem d_P_greatestDifference_1 : decode b_P_greatestDifference 1 = .ok (.istore_n 2, 1) := by decide +kernel
theorem d_P_greatestDifference_2 : decode b_P_greatestDifference 2 = .ok (.iconst 0, 1) := by decide +kernel
theorem d_P_greatestDifference_3 : decode b_P_greatestDifference 3 = .ok (.istore_n 3, 1) := by decide +kernel
theorem d_P_greatestDifference_4 : decode b_P_greatestDifference 4 = .ok (.iload_n 3, 1) := by decide +kernel
theorem d_P_greatestDifference_5 : decode b_P_greatestDifference 5 = .ok (.aload_n 0, 1) := by decide +kernel
theorem d_P_greatestDifference_6 : decode b_P_greatestDifference 6 = .ok (.getfield 28, 3) := by decide +kernel
theorem d_P_greatestDifference_9 : decode b_P_greatestDifference 9 = .ok (.if_icmp .gt 38, 3) := by decide +kernel
theorem d_P_greatestDifference_12 : decode b_P_greatestDifference 12 = .ok (.iload_n 3, 1) := by decide +kernel
theorem d_P_greatestDifference_13 : decode b_P_greatestDifference 13 = .ok (.aload_n 1, 1) := by decide +kernel
theorem d_P_greatestDifference_14 : decode b_P_greatestDifference 14 = .ok (.getfield 28, 3) := by decide +kernel
theorem d_P_greatestDifference_17 : decode b_P_greatestDifference 17 = .ok (.if_icmp .gt 30, 3) := by decide +kernel
theorem d_P_greatestDifference_20 : decode b_P_greatestDifference 20 = .ok (.iload_n 2, 1) := by decide +kernel
theorem d_P_greatestDifference_21 : decode b_P_greatestDifference 21 = .ok (.aload_n 0, 1) := by decide +kernel
theorem d_P_greatestDifference_22 : decode b_P_greatestDifference 22 = .ok (.getfield 25, 3) := by decide +kernel
theorem d_P_greatestDifference_25 : decode b_P_greatestDifference 25 = .ok (.iload_n 3, 1) := by decide +kernel
theorem d_P_greatestDifference_26 : decode b_P_greatestDifference 26 = .ok (.iaload, 1) := by decide +kernel
theorem d_P_greatestDifference_27 : decode b_P_greatestDifference 27 = .ok (.aload_n 1, 1) := by decide +kernel
theorem d_P_greatestDifference_28 : decode b_P_greatestDifference 28 = .ok (.getfield 25, 3) := by decide +kernel
theorem d_P_greatestDifference_31 : decode b_P_greatestDifference 31 = .ok (.iload_n 3, 1) := by decide +kernel
theorem d_P_greatestDifference_32 : decode b_P_greatestDifference 32 = .ok (.iaload, 1) := by decide +kernel
theorem d_P_greatestDifference_33 : decode b_P_greatestDifference 33 = .ok (.isub, 1) := by decide +kernel
theorem d_P_greatestDifference_34 : decode b_P_greatestDifference 34 = .ok (.invokestatic 47, 3) := by decide +kernel
theorem d_P_greatestDifference_37 : decode b_P_greatestDifference 37 = .ok (.invokestatic 35, 3) := by decide +kernel
theorem d_P_greatestDifference_40 : decode b_P_greatestDifference 40 = .ok (.istore_n 2, 1) := by decide +kernel
theorem d_P_greatestDifference_41 : decode b_P_greatestDifference 41 = .ok (.iinc 3 1, 3) := by decide +kernel
theorem d_P_greatestDifference_44 : decode b_P_greatestDifference 44 = .ok (.goto (-40), 3) := by decide +kernel
theorem d_P_greatestDifference_47 : decode b_P_greatestDifference 47 = .ok (.iload_n 2, 1) := by decide +kernel
theorem d_P_greatestDifference_48 : decode b_P_greatestDifference 48 = .ok (.ireturn, 1) := by decide +kernel
theorem d_P_heldBehind_0 : decode b_P_heldBehind 0 = .ok (.iload_n 1, 1) := by decide +kernel
theorem d_P_heldBehind_1 : decode b_P_heldBehind 1 = .ok (.iconst 1, 1) := by decide +kernel
theorem d_P_heldBehind_2 : decode b_P_heldBehind 2 = .ok (.iadd, 1) := by decide +kernel
theorem d_P_heldBehind_3 : decode b_P_heldBehind 3 = .ok (.istore_n 3, 1) := by decide +kernel
theorem d_P_heldBehind_4 : decode b_P_heldBehind 4 = .ok (.aload_n 0, 1) := by decide +kernel
theorem d_P_heldBehind_5 : decode b_P_heldBehind 5 = .ok (.getfield 25, 3) := by decide +kernel
theorem d_P_heldBehind_8 : decode b_P_heldBehind 8 = .ok (.iload_n 1, 1) := by decide +kernel
theorem d_P_heldBehind_9 : decode b_P_heldBehind 9 = .ok (.iaload, 1) := by decide +kernel
theorem d_P_heldBehind_10 : decode b_P_heldBehind 10 = .ok (.istore 4, 2) := by decide +kernel
theorem d_P_heldBehind_12 : decode b_P_heldBehind 12 = .ok (.iload_n 1, 1) := by decide +kernel
theorem d_P_heldBehind_13 : decode b_P_heldBehind 13 = .ok (.iconst 1, 1) := by decide +kernel
theorem d_P_heldBehind_14 : decode b_P_heldBehind 14 = .ok (.iadd, 1) := by decide +kernel
theorem d_P_heldBehind_15 : decode b_P_heldBehind 15 = .ok (.istore 5, 2) := by decide +kernel
theorem d_P_heldBehind_17 : decode b_P_heldBehind 17 = .ok (.iload 5, 2) := by decide +kernel
theorem d_P_heldBehind_19 : decode b_P_heldBehind 19 = .ok (.aload_n 0, 1) := by decide +kernel
theorem d_P_heldBehind_20 : decode b_P_heldBehind 20 = .ok (.getfield 28, 3) := by decide +kernel
theorem d_P_heldBehind_23 : decode b_P_heldBehind 23 = .ok (.if_icmp .gt 40, 3) := by decide +kernel
theorem d_P_heldBehind_26 : decode b_P_heldBehind 26 = .ok (.iload 4, 2) := by decide +kernel
theorem d_P_heldBehind_28 : decode b_P_heldBehind 28 = .ok (.aload_n 0, 1) := by decide +kernel
theorem d_P_heldBehind_29 : decode b_P_heldBehind 29 = .ok (.getfield 25, 3) := by decide +kernel
theorem d_P_heldBehind_32 : decode b_P_heldBehind 32 = .ok (.iload 5, 2) := by decide +kernel
theorem d_P_heldBehind_34 : decode b_P_heldBehind 34 = .ok (.iaload, 1) := by decide +kernel
theorem d_P_heldBehind_35 : decode b_P_heldBehind 35 = .ok (.invokestatic 44, 3) := by decide +kernel
theorem d_P_heldBehind_38 : decode b_P_heldBehind 38 = .ok (.istore 4, 2) := by decide +kernel
theorem d_P_heldBehind_40 : decode b_P_heldBehind 40 = .ok (.iload 5, 2) := by decide +kernel
theorem d_P_heldBehind_42 : decode b_P_heldBehind 42 = .ok (.iload_n 1, 1) := by decide +kernel
theorem d_P_heldBehind_43 : decode b_P_heldBehind 43 = .ok (.isub, 1) := by decide +kernel
theorem d_P_heldBehind_44 : decode b_P_heldBehind 44 = .ok (.iload_n 2, 1) := by decide +kernel
theorem d_P_heldBehind_45 : decode b_P_heldBehind 45 = .ok (.imul, 1) := by decide +kernel
theorem d_P_heldBehind_46 : decode b_P_heldBehind 46 = .ok (.iload 4, 2) := by decide +kernel
theorem d_P_heldBehind_48 : decode b_P_heldBehind 48 = .ok (.if_icmp .le 6, 3) := by decide +kernel
theorem d_P_heldBehind_51 : decode b_P_heldBehind 51 = .ok (.goto 12, 3) := by decide +kernel
theorem d_P_heldBehind_54 : decode b_P_heldBehind 54 = .ok (.iload 5, 2) := by decide +kernel
theorem d_P_heldBehind_56 : decode b_P_heldBehind 56 = .ok (.istore_n 3, 1) := by decide +kernel
theorem d_P_heldBehind_57 : decode b_P_heldBehind 57 = .ok (.iinc 5 1, 3) := by decide +kernel
theorem d_P_heldBehind_60 : decode b_P_heldBehind 60 = .ok (.goto (-43), 3) := by decide +kernel
theorem d_P_heldBehind_63 : decode b_P_heldBehind 63 = .ok (.iload_n 3, 1) := by decide +kernel
theorem d_P_heldBehind_64 : decode b_P_heldBehind 64 = .ok (.ireturn, 1) := by decide +kernel
theorem d_P_init_0 : decode b_P_init 0 = .ok (.aload_n 0, 1) := by decide +kernel
theorem d_P_init_1 : decode b_P_init 1 = .ok (.invokespecial 3, 3) := by decide +kernel
theorem d_P_init_4 : decode b_P_init 4 = .ok (.aload_n 0, 1) := by decide +kernel
theorem d_P_init_5 : decode b_P_init 5 = .ok (.aload_n 1, 1) := by decide +kernel
theorem d_P_init_6 : decode b_P_init 6 = .ok (.getfield 9, 3) := by decide +kernel
theorem d_P_init_9 : decode b_P_init 9 = .ok (.aload_n 1, 1) := by decide +kernel
theorem d_P_init_10 : decode b_P_init 10 = .ok (.getfield 15, 3) := by decide +kernel
theorem d_P_init_13 : decode b_P_init 13 = .ok (.iconst 1, 1) := by decide +kernel
theorem d_P_init_14 : decode b_P_init 14 = .ok (.iadd, 1) := by decide +kernel
theorem d_P_init_15 : decode b_P_init 15 = .ok (.invokestatic 19, 3) := by decide +kernel
theorem d_P_init_18 : decode b_P_init 18 = .ok (.putfield 25, 3) := by decide +kernel
theorem d_P_init_21 : decode b_P_init 21 = .ok (.aload_n 0, 1) := by decide +kernel
theorem d_P_init_22 : decode b_P_init 22 = .ok (.aload_n 1, 1) := by decide +kernel
theorem d_P_init_23 : decode b_P_init 23 = .ok (.getfield 15, 3) := by decide +kernel
theorem d_P_init_26 : decode b_P_init 26 = .ok (.putfield 28, 3) := by decide +kernel
theorem d_P_init_29 : decode b_P_init 29 = .ok (.aload_n 0, 1) := by decide +kernel
theorem d_P_init_30 : decode b_P_init 30 = .ok (.aload_n 1, 1) := by decide +kernel
theorem d_P_init_31 : decode b_P_init 31 = .ok (.getfield 31, 3) := by decide +kernel
theorem d_P_init_34 : decode b_P_init 34 = .ok (.putfield 34, 3) := by decide +kernel
theorem d_P_init_37 : decode b_P_init 37 = .ok (.iconst 0, 1) := by decide +kernel
theorem d_P_init_38 : decode b_P_init 38 = .ok (.istore_n 2, 1) := by decide +kernel
theorem d_P_init_39 : decode b_P_init 39 = .ok (.iconst 0, 1) := by decide +kernel
theorem d_P_init_40 : decode b_P_init 40 = .ok (.istore_n 3, 1) := by decide +kernel
theorem d_P_init_41 : decode b_P_init 41 = .ok (.iload_n 3, 1) := by decide +kernel
theorem d_P_init_42 : decode b_P_init 42 = .ok (.aload_n 0, 1) := by decide +kernel
theorem d_P_init_43 : decode b_P_init 43 = .ok (.getfield 25, 3) := by decide +kernel
theorem d_P_init_46 : decode b_P_init 46 = .ok (.arraylength, 1) := by decide +kernel
theorem d_P_init_47 : decode b_P_init 47 = .ok (.if_icmp .ge 20, 3) := by decide +kernel
theorem d_P_init_50 : decode b_P_init 50 = .ok (.iload_n 2, 1) := by decide +kernel
theorem d_P_init_51 : decode b_P_init 51 = .ok (.aload_n 0, 1) := by decide +kernel
theorem d_P_init_52 : decode b_P_init 52 = .ok (.getfield 25, 3) := by decide +kernel
theorem d_P_init_55 : decode b_P_init 55 = .ok (.iload_n 3, 1) := by decide +kernel
theorem d_P_init_56 : decode b_P_init 56 = .ok (.iaload, 1) := by decide +kernel
theorem d_P_init_57 : decode b_P_init 57 = .ok (.invokestatic 35, 3) := by decide +kernel
theorem d_P_init_60 : decode b_P_init 60 = .ok (.istore_n 2, 1) := by decide +kernel
theorem d_P_init_61 : decode b_P_init 61 = .ok (.iinc 3 1, 3) := by decide +kernel
theorem d_P_init_64 : decode b_P_init 64 = .ok (.goto (-23), 3) := by decide +kernel
theorem d_P_init_67 : decode b_P_init 67 = .ok (.aload_n 0, 1) := by decide +kernel
theorem d_P_init_68 : decode b_P_init 68 = .ok (.iload_n 2, 1) := by decide +kernel
theorem d_P_init_69 : decode b_P_init 69 = .ok (.iconst 3, 1) := by decide +kernel
theorem d_P_init_70 : decode b_P_init 70 = .ok (.iadd, 1) := by decide +kernel
theorem d_P_init_71 : decode b_P_init 71 = .ok (.putfield 41, 3) := by decide +kernel
theorem d_P_init_74 : decode b_P_init 74 = .ok (.return_, 1) := by decide +kernel
theorem d_P_lastPlacesFrom_0 : decode b_P_lastPlacesFrom 0 = .ok (.iconst 0, 1) := by decide +kernel
theorem d_P_lastPlacesFrom_1 : decode b_P_lastPlacesFrom 1 = .ok (.istore_n 2, 1) := by decide +kernel
theorem d_P_lastPlacesFrom_2 : decode b_P_lastPlacesFrom 2 = .ok (.aload_n 0, 1) := by decide +kernel
theorem d_P_lastPlacesFrom_3 : decode b_P_lastPlacesFrom 3 = .ok (.getfield 28, 3) := by decide +kernel
theorem d_P_lastPlacesFrom_6 : decode b_P_lastPlacesFrom 6 = .ok (.istore_n 3, 1) := by decide +kernel
theorem d_P_lastPlacesFrom_7 : decode b_P_lastPlacesFrom 7 = .ok (.iload_n 3, 1) := by decide +kernel
theorem d_P_lastPlacesFrom_8 : decode b_P_lastPlacesFrom 8 = .ok (.ifCond .lt 22, 3) := by decide +kernel
theorem d_P_lastPlacesFrom_11 : decode b_P_lastPlacesFrom 11 = .ok (.aload_n 0, 1) := by decide +kernel
theorem d_P_lastPlacesFrom_12 : decode b_P_lastPlacesFrom 12 = .ok (.getfield 25, 3) := by decide +kernel
theorem d_P_lastPlacesFrom_15 : decode b_P_lastPlacesFrom 15 = .ok (.iload_n 3, 1) := by decide +kernel
theorem d_P_lastPlacesFrom_16 : decode b_P_lastPlacesFrom 16 = .ok (.iaload, 1) := by decide +kernel
theorem d_P_lastPlacesFrom_17 : decode b_P_lastPlacesFrom 17 = .ok (.iload_n 1, 1) := by decide +kernel
theorem d_P_lastPlacesFrom_18 : decode b_P_lastPlacesFrom 18 = .ok (.if_icmp .lt 12, 3) := by decide +kernel
theorem d_P_lastPlacesFrom_21 : decode b_P_lastPlacesFrom 21 = .ok (.iinc 2 1, 3) := by decide +kernel
theorem d_P_lastPlacesFrom_24 : decode b_P_lastPlacesFrom 24 = .ok (.iinc 3 (-1), 3) := by decide +kernel
theorem d_P_lastPlacesFrom_27 : decode b_P_lastPlacesFrom 27 = .ok (.goto (-20), 3) := by decide +kernel
theorem d_P_lastPlacesFrom_30 : decode b_P_lastPlacesFrom 30 = .ok (.iload_n 2, 1) := by decide +kernel
theorem d_P_lastPlacesFrom_31 : decode b_P_lastPlacesFrom 31 = .ok (.ireturn, 1) := by decide +kernel
theorem d_P_sumOfSquares_0 : decode b_P_sumOfSquares 0 = .ok (.lconst 0, 1) := by decide +kernel
theorem d_P_sumOfSquares_1 : decode b_P_sumOfSquares 1 = .ok (.lstore_n 2, 1) := by decide +kernel
theorem d_P_sumOfSquares_2 : decode b_P_sumOfSquares 2 = .ok (.iconst 1, 1) := by decide +kernel
theorem d_P_sumOfSquares_3 : decode b_P_sumOfSquares 3 = .ok (.istore 4, 2) := by decide +kernel
theorem d_P_sumOfSquares_5 : decode b_P_sumOfSquares 5 = .ok (.iload 4, 2) := by decide +kernel
theorem d_P_sumOfSquares_7 : decode b_P_sumOfSquares 7 = .ok (.aload_n 0, 1) := by decide +kernel
theorem d_P_sumOfSquares_8 : decode b_P_sumOfSquares 8 = .ok (.getfield 28, 3) := by decide +kernel
theorem d_P_sumOfSquares_11 : decode b_P_sumOfSquares 11 = .ok (.if_icmp .gt 66, 3) := by decide +kernel
theorem d_P_sumOfSquares_14 : decode b_P_sumOfSquares 14 = .ok (.iload_n 1, 1) := by decide +kernel
theorem d_P_sumOfSquares_15 : decode b_P_sumOfSquares 15 = .ok (.ifCond .eq 26, 3) := by decide +kernel
theorem d_P_sumOfSquares_18 : decode b_P_sumOfSquares 18 = .ok (.aload_n 0, 1) := by decide +kernel
theorem d_P_sumOfSquares_19 : decode b_P_sumOfSquares 19 = .ok (.getfield 25, 3) := by decide +kernel
theorem d_P_sumOfSquares_22 : decode b_P_sumOfSquares 22 = .ok (.iload 4, 2) := by decide +kernel
theorem d_P_sumOfSquares_24 : decode b_P_sumOfSquares 24 = .ok (.iconst 1, 1) := by decide +kernel
theorem d_P_sumOfSquares_25 : decode b_P_sumOfSquares 25 = .ok (.isub, 1) := by decide +kernel
theorem d_P_sumOfSquares_26 : decode b_P_sumOfSquares 26 = .ok (.iaload, 1) := by decide +kernel
theorem d_P_sumOfSquares_27 : decode b_P_sumOfSquares 27 = .ok (.aload_n 0, 1) := by decide +kernel
theorem d_P_sumOfSquares_28 : decode b_P_sumOfSquares 28 = .ok (.getfield 25, 3) := by decide +kernel
theorem d_P_sumOfSquares_31 : decode b_P_sumOfSquares 31 = .ok (.iload 4, 2) := by decide +kernel
theorem d_P_sumOfSquares_33 : decode b_P_sumOfSquares 33 = .ok (.iaload, 1) := by decide +kernel
theorem d_P_sumOfSquares_34 : decode b_P_sumOfSquares 34 = .ok (.invokestatic 35, 3) := by decide +kernel
theorem d_P_sumOfSquares_37 : decode b_P_sumOfSquares 37 = .ok (.i2l, 1) := by decide +kernel
theorem d_P_sumOfSquares_38 : decode b_P_sumOfSquares 38 = .ok (.goto 23, 3) := by decide +kernel
theorem d_P_sumOfSquares_41 : decode b_P_sumOfSquares 41 = .ok (.aload_n 0, 1) := by decide +kernel
theorem d_P_sumOfSquares_42 : decode b_P_sumOfSquares 42 = .ok (.getfield 25, 3) := by decide +kernel
theorem d_P_sumOfSquares_45 : decode b_P_sumOfSquares 45 = .ok (.iload 4, 2) := by decide +kernel
theorem d_P_sumOfSquares_47 : decode b_P_sumOfSquares 47 = .ok (.iconst 1, 1) := by decide +kernel
theorem d_P_sumOfSquares_48 : decode b_P_sumOfSquares 48 = .ok (.isub, 1) := by decide +kernel
theorem d_P_sumOfSquares_49 : decode b_P_sumOfSquares 49 = .ok (.iaload, 1) := by decide +kernel
theorem d_P_sumOfSquares_50 : decode b_P_sumOfSquares 50 = .ok (.aload_n 0, 1) := by decide +kernel
theorem d_P_sumOfSquares_51 : decode b_P_sumOfSquares 51 = .ok (.getfield 25, 3) := by decide +kernel
theorem d_P_sumOfSquares_54 : decode b_P_sumOfSquares 54 = .ok (.iload 4, 2) := by decide +kernel
theorem d_P_sumOfSquares_56 : decode b_P_sumOfSquares 56 = .ok (.iaload, 1) := by decide +kernel
theorem d_P_sumOfSquares_57 : decode b_P_sumOfSquares 57 = .ok (.invokestatic 44, 3) := by decide +kernel
theorem d_P_sumOfSquares_60 : decode b_P_sumOfSquares 60 = .ok (.i2l, 1) := by decide +kernel
theorem d_P_sumOfSquares_61 : decode b_P_sumOfSquares 61 = .ok (.lstore 5, 2) := by decide +kernel
theorem d_P_sumOfSquares_63 : decode b_P_sumOfSquares 63 = .ok (.lload_n 2, 1) := by decide +kernel
theorem d_P_sumOfSquares_64 : decode b_P_sumOfSquares 64 = .ok (.lload 5, 2) := by decide +kernel
theorem d_P_sumOfSquares_66 : decode b_P_sumOfSquares 66 = .ok (.lload 5, 2) := by decide +kernel
theorem d_P_sumOfSquares_68 : decode b_P_sumOfSquares 68 = .ok (.lmul, 1) := by decide +kernel
theorem d_P_sumOfSquares_69 : decode b_P_sumOfSquares 69 = .ok (.ladd, 1) := by decide +kernel
theorem d_P_sumOfSquares_70 : decode b_P_sumOfSquares 70 = .ok (.lstore_n 2, 1) := by decide +kernel
theorem d_P_sumOfSquares_71 : decode b_P_sumOfSquares 71 = .ok (.iinc 4 1, 3) := by decide +kernel
theorem d_P_sumOfSquares_74 : decode b_P_sumOfSquares 74 = .ok (.goto (-69), 3) := by decide +kernel
theorem d_P_sumOfSquares_77 : decode b_P_sumOfSquares 77 = .ok (.lload_n 2, 1) := by decide +kernel
theorem d_P_sumOfSquares_78 : decode b_P_sumOfSquares 78 = .ok (.lreturn, 1) := by decide +kernel
theorem d_R_init_0 : decode b_R_init 0 = .ok (.aload_n 0, 1) := by decide +kernel
theorem d_R_init_1 : decode b_R_init 1 = .ok (.invokespecial 1, 3) := by decide +kernel
theorem d_R_init_4 : decode b_R_init 4 = .ok (.aload_n 1, 1) := by decide +kernel
theorem d_R_init_5 : decode b_R_init 5 = .ok (.arraylength, 1) := by decide +kernel
theorem d_R_init_6 : decode b_R_init 6 = .ok (.newarray .int, 2) := by decide +kernel
theorem d_R_init_8 : decode b_R_init 8 = .ok (.astore_n 3, 1) := by decide +kernel
theorem d_R_init_9 : decode b_R_init 9 = .ok (.iconst 0, 1) := by decide +kernel
theorem d_R_init_10 : decode b_R_init 10 = .ok (.istore 4, 2) := by decide +kernel
theorem d_R_init_12 : decode b_R_init 12 = .ok (.iload 4, 2) := by decide +kernel
theorem d_R_init_14 : decode b_R_init 14 = .ok (.aload_n 1, 1) := by decide +kernel
theorem d_R_init_15 : decode b_R_init 15 = .ok (.arraylength, 1) := by decide +kernel
theorem d_R_init_16 : decode b_R_init 16 = .ok (.if_icmp .ge 20, 3) := by decide +kernel
theorem d_R_init_19 : decode b_R_init 19 = .ok (.aload_n 3, 1) := by decide +kernel
theorem d_R_init_20 : decode b_R_init 20 = .ok (.iload 4, 2) := by decide +kernel
theorem d_R_init_22 : decode b_R_init 22 = .ok (.aload_n 1, 1) := by decide +kernel
theorem d_R_init_23 : decode b_R_init 23 = .ok (.aload_n 2, 1) := by decide +kernel
theorem d_R_init_24 : decode b_R_init 24 = .ok (.iload 4, 2) := by decide +kernel
theorem d_R_init_26 : decode b_R_init 26 = .ok (.invokestatic 7, 3) := by decide +kernel
theorem d_R_init_29 : decode b_R_init 29 = .ok (.iastore, 1) := by decide +kernel
theorem d_R_init_30 : decode b_R_init 30 = .ok (.iinc 4 1, 3) := by decide +kernel
theorem d_R_init_33 : decode b_R_init 33 = .ok (.goto (-21), 3) := by decide +kernel
theorem d_R_init_36 : decode b_R_init 36 = .ok (.aload_n 0, 1) := by decide +kernel
theorem d_R_init_37 : decode b_R_init 37 = .ok (.aload_n 1, 1) := by decide +kernel
theorem d_R_init_38 : decode b_R_init 38 = .ok (.arraylength, 1) := by decide +kernel
theorem d_R_init_39 : decode b_R_init 39 = .ok (.newarray .int, 2) := by decide +kernel
theorem d_R_init_41 : decode b_R_init 41 = .ok (.putfield 13, 3) := by decide +kernel
theorem d_R_init_44 : decode b_R_init 44 = .ok (.iconst 0, 1) := by decide +kernel
theorem d_R_init_45 : decode b_R_init 45 = .ok (.istore 4, 2) := by decide +kernel
theorem d_R_init_47 : decode b_R_init 47 = .ok (.iload 4, 2) := by decide +kernel
theorem d_R_init_49 : decode b_R_init 49 = .ok (.aload_n 1, 1) := by decide +kernel
theorem d_R_init_50 : decode b_R_init 50 = .ok (.arraylength, 1) := by decide +kernel
theorem d_R_init_51 : decode b_R_init 51 = .ok (.if_icmp .ge 23, 3) := by decide +kernel
theorem d_R_init_54 : decode b_R_init 54 = .ok (.aload_n 0, 1) := by decide +kernel
theorem d_R_init_55 : decode b_R_init 55 = .ok (.getfield 13, 3) := by decide +kernel
theorem d_R_init_58 : decode b_R_init 58 = .ok (.iload 4, 2) := by decide +kernel
theorem d_R_init_60 : decode b_R_init 60 = .ok (.aload_n 3, 1) := by decide +kernel
theorem d_R_init_61 : decode b_R_init 61 = .ok (.aload_n 2, 1) := by decide +kernel
theorem d_R_init_62 : decode b_R_init 62 = .ok (.iload 4, 2) := by decide +kernel
theorem d_R_init_64 : decode b_R_init 64 = .ok (.invokestatic 17, 3) := by decide +kernel
theorem d_R_init_67 : decode b_R_init 67 = .ok (.iastore, 1) := by decide +kernel
theorem d_R_init_68 : decode b_R_init 68 = .ok (.iinc 4 1, 3) := by decide +kernel
theorem d_R_init_71 : decode b_R_init 71 = .ok (.goto (-24), 3) := by decide +kernel
theorem d_R_init_74 : decode b_R_init 74 = .ok (.return_, 1) := by decide +kernel
theorem d_R_liftAt_0 : decode b_R_liftAt 0 = .ok (.aload_n 1, 1) := by decide +kernel
theorem d_R_liftAt_1 : decode b_R_liftAt 1 = .ok (.arraylength, 1) := by decide +kernel
theorem d_R_liftAt_2 : decode b_R_liftAt 2 = .ok (.iconst 1, 1) := by decide +kernel
theorem d_R_liftAt_3 : decode b_R_liftAt 3 = .ok (.isub, 1) := by decide +kernel
theorem d_R_liftAt_4 : decode b_R_liftAt 4 = .ok (.istore_n 3, 1) := by decide +kernel
theorem d_R_liftAt_5 : decode b_R_liftAt 5 = .ok (.iload_n 2, 1) := by decide +kernel
theorem d_R_liftAt_6 : decode b_R_liftAt 6 = .ok (.iload_n 3, 1) := by decide +kernel
theorem d_R_liftAt_7 : decode b_R_liftAt 7 = .ok (.iadd, 1) := by decide +kernel
theorem d_R_liftAt_8 : decode b_R_liftAt 8 = .ok (.aload_n 0, 1) := by decide +kernel
theorem d_R_liftAt_9 : decode b_R_liftAt 9 = .ok (.arraylength, 1) := by decide +kernel
theorem d_R_liftAt_10 : decode b_R_liftAt 10 = .ok (.iconst 1, 1) := by decide +kernel
theorem d_R_liftAt_11 : decode b_R_liftAt 11 = .ok (.isub, 1) := by decide +kernel
theorem d_R_liftAt_12 : decode b_R_liftAt 12 = .ok (.invokestatic 20, 3) := by decide +kernel
theorem d_R_liftAt_15 : decode b_R_liftAt 15 = .ok (.istore 4, 2) := by decide +kernel
theorem d_R_liftAt_17 : decode b_R_liftAt 17 = .ok (.iconst 0, 1) := by decide +kernel
theorem d_R_liftAt_18 : decode b_R_liftAt 18 = .ok (.istore 5, 2) := by decide +kernel
theorem d_R_liftAt_20 : decode b_R_liftAt 20 = .ok (.iload_n 2, 1) := by decide +kernel
theorem d_R_liftAt_21 : decode b_R_liftAt 21 = .ok (.iload_n 3, 1) := by decide +kernel
theorem d_R_liftAt_22 : decode b_R_liftAt 22 = .ok (.isub, 1) := by decide +kernel
theorem d_R_liftAt_23 : decode b_R_liftAt 23 = .ok (.iconst 0, 1) := by decide +kernel
theorem d_R_liftAt_24 : decode b_R_liftAt 24 = .ok (.invokestatic 26, 3) := by decide +kernel
theorem d_R_liftAt_27 : decode b_R_liftAt 27 = .ok (.istore 6, 2) := by decide +kernel
theorem d_R_liftAt_29 : decode b_R_liftAt 29 = .ok (.iload 6, 2) := by decide +kernel
theorem d_R_liftAt_31 : decode b_R_liftAt 31 = .ok (.iload 4, 2) := by decide +kernel
theorem d_R_liftAt_33 : decode b_R_liftAt 33 = .ok (.if_icmp .gt 30, 3) := by decide +kernel
theorem d_R_liftAt_36 : decode b_R_liftAt 36 = .ok (.iload 5, 2) := by decide +kernel
theorem d_R_liftAt_38 : decode b_R_liftAt 38 = .ok (.aload_n 0, 1) := by decide +kernel
theorem d_R_liftAt_39 : decode b_R_liftAt 39 = .ok (.iload 6, 2) := by decide +kernel
theorem d_R_liftAt_41 : decode b_R_liftAt 41 = .ok (.iaload, 1) := by decide +kernel
theorem d_R_liftAt_42 : decode b_R_liftAt 42 = .ok (.aload_n 1, 1) := by decide +kernel
theorem d_R_liftAt_43 : decode b_R_liftAt 43 = .ok (.iload 6, 2) := by decide +kernel
theorem d_R_liftAt_45 : decode b_R_liftAt 45 = .ok (.iload_n 2, 1) := by decide +kernel
theorem d_R_liftAt_46 : decode b_R_liftAt 46 = .ok (.isub, 1) := by decide +kernel
theorem d_R_liftAt_47 : decode b_R_liftAt 47 = .ok (.invokestatic 29, 3) := by decide +kernel
theorem d_R_liftAt_50 : decode b_R_liftAt 50 = .ok (.iaload, 1) := by decide +kernel
theorem d_R_liftAt_51 : decode b_R_liftAt 51 = .ok (.iadd, 1) := by decide +kernel
theorem d_R_liftAt_52 : decode b_R_liftAt 52 = .ok (.invokestatic 26, 3) := by decide +kernel
theorem d_R_liftAt_55 : decode b_R_liftAt 55 = .ok (.istore 5, 2) := by decide +kernel
theorem d_R_liftAt_57 : decode b_R_liftAt 57 = .ok (.iinc 6 1, 3) := by decide +kernel
theorem d_R_liftAt_60 : decode b_R_liftAt 60 = .ok (.goto (-31), 3) := by decide +kernel
theorem d_R_liftAt_63 : decode b_R_liftAt 63 = .ok (.iload 5, 2) := by decide +kernel
theorem d_R_liftAt_65 : decode b_R_liftAt 65 = .ok (.ireturn, 1) := by decide +kernel
theorem d_R_lowAt_0 : decode b_R_lowAt 0 = .ok (.aload_n 1, 1) := by decide +kernel
theorem d_R_lowAt_1 : decode b_R_lowAt 1 = .ok (.arraylength, 1) := by decide +kernel
theorem d_R_lowAt_2 : decode b_R_lowAt 2 = .ok (.iconst 1, 1) := by decide +kernel
theorem d_R_lowAt_3 : decode b_R_lowAt 3 = .ok (.isub, 1) := by decide +kernel
theorem d_R_lowAt_4 : decode b_R_lowAt 4 = .ok (.istore_n 3, 1) := by decide +kernel
theorem d_R_lowAt_5 : decode b_R_lowAt 5 = .ok (.iload_n 2, 1) := by decide +kernel
theorem d_R_lowAt_6 : decode b_R_lowAt 6 = .ok (.iload_n 3, 1) := by decide +kernel
theorem d_R_lowAt_7 : decode b_R_lowAt 7 = .ok (.iadd, 1) := by decide +kernel
theorem d_R_lowAt_8 : decode b_R_lowAt 8 = .ok (.aload_n 0, 1) := by decide +kernel
theorem d_R_lowAt_9 : decode b_R_lowAt 9 = .ok (.arraylength, 1) := by decide +kernel
theorem d_R_lowAt_10 : decode b_R_lowAt 10 = .ok (.iconst 1, 1) := by decide +kernel
theorem d_R_lowAt_11 : decode b_R_lowAt 11 = .ok (.isub, 1) := by decide +kernel
theorem d_R_lowAt_12 : decode b_R_lowAt 12 = .ok (.invokestatic 20, 3) := by decide +kernel
theorem d_R_lowAt_15 : decode b_R_lowAt 15 = .ok (.istore 4, 2) := by decide +kernel
theorem d_R_lowAt_17 : decode b_R_lowAt 17 = .ok (.ldc 35, 2) := by decide +kernel
theorem d_R_lowAt_19 : decode b_R_lowAt 19 = .ok (.istore 5, 2) := by decide +kernel
theorem d_R_lowAt_21 : decode b_R_lowAt 21 = .ok (.iload_n 2, 1) := by decide +kernel
theorem d_R_lowAt_22 : decode b_R_lowAt 22 = .ok (.iload_n 3, 1) := by decide +kernel
theorem d_R_lowAt_23 : decode b_R_lowAt 23 = .ok (.isub, 1) := by decide +kernel
theorem d_R_lowAt_24 : decode b_R_lowAt 24 = .ok (.iconst 0, 1) := by decide +kernel
theorem d_R_lowAt_25 : decode b_R_lowAt 25 = .ok (.invokestatic 26, 3) := by decide +kernel
theorem d_R_lowAt_28 : decode b_R_lowAt 28 = .ok (.istore 6, 2) := by decide +kernel
theorem d_R_lowAt_30 : decode b_R_lowAt 30 = .ok (.iload 6, 2) := by decide +kernel
theorem d_R_lowAt_32 : decode b_R_lowAt 32 = .ok (.iload 4, 2) := by decide +kernel
theorem d_R_lowAt_34 : decode b_R_lowAt 34 = .ok (.if_icmp .gt 30, 3) := by decide +kernel
theorem d_R_lowAt_37 : decode b_R_lowAt 37 = .ok (.iload 5, 2) := by decide +kernel
theorem d_R_lowAt_39 : decode b_R_lowAt 39 = .ok (.aload_n 0, 1) := by decide +kernel
theorem d_R_lowAt_40 : decode b_R_lowAt 40 = .ok (.iload 6, 2) := by decide +kernel
theorem d_R_lowAt_42 : decode b_R_lowAt 42 = .ok (.iaload, 1) := by decide +kernel
theorem d_R_lowAt_43 : decode b_R_lowAt 43 = .ok (.aload_n 1, 1) := by decide +kernel
theorem d_R_lowAt_44 : decode b_R_lowAt 44 = .ok (.iload 6, 2) := by decide +kernel
theorem d_R_lowAt_46 : decode b_R_lowAt 46 = .ok (.iload_n 2, 1) := by decide +kernel
theorem d_R_lowAt_47 : decode b_R_lowAt 47 = .ok (.isub, 1) := by decide +kernel
theorem d_R_lowAt_48 : decode b_R_lowAt 48 = .ok (.invokestatic 29, 3) := by decide +kernel
theorem d_R_lowAt_51 : decode b_R_lowAt 51 = .ok (.iaload, 1) := by decide +kernel
theorem d_R_lowAt_52 : decode b_R_lowAt 52 = .ok (.isub, 1) := by decide +kernel
theorem d_R_lowAt_53 : decode b_R_lowAt 53 = .ok (.invokestatic 20, 3) := by decide +kernel
theorem d_R_lowAt_56 : decode b_R_lowAt 56 = .ok (.istore 5, 2) := by decide +kernel
theorem d_R_lowAt_58 : decode b_R_lowAt 58 = .ok (.iinc 6 1, 3) := by decide +kernel
theorem d_R_lowAt_61 : decode b_R_lowAt 61 = .ok (.goto (-31), 3) := by decide +kernel
theorem d_R_lowAt_64 : decode b_R_lowAt 64 = .ok (.iload 5, 2) := by decide +kernel
theorem d_R_lowAt_66 : decode b_R_lowAt 66 = .ok (.ireturn, 1) := by decide +kernel
theorem d_R_passCount_0 : decode b_R_passCount 0 = .ok (.iload_n 1, 1) := by decide +kernel
theorem d_R_passCount_1 : decode b_R_passCount 1 = .ok (.istore 4, 2) := by decide +kernel
theorem d_R_passCount_3 : decode b_R_passCount 3 = .ok (.iconst 0, 1) := by decide +kernel
theorem d_R_passCount_4 : decode b_R_passCount 4 = .ok (.istore 5, 2) := by decide +kernel
theorem d_R_passCount_6 : decode b_R_passCount 6 = .ok (.iload 5, 2) := by decide +kernel
theorem d_R_passCount_8 : decode b_R_passCount 8 = .ok (.aload_n 0, 1) := by decide +kernel
theorem d_R_passCount_9 : decode b_R_passCount 9 = .ok (.getfield 13, 3) := by decide +kernel
theorem d_R_passCount_12 : decode b_R_passCount 12 = .ok (.arraylength, 1) := by decide +kernel
theorem d_R_passCount_13 : decode b_R_passCount 13 = .ok (.if_icmp .ge 24, 3) := by decide +kernel
theorem d_R_passCount_16 : decode b_R_passCount 16 = .ok (.iload 4, 2) := by decide +kernel
theorem d_R_passCount_18 : decode b_R_passCount 18 = .ok (.aload_n 0, 1) := by decide +kernel
theorem d_R_passCount_19 : decode b_R_passCount 19 = .ok (.iload 5, 2) := by decide +kernel
theorem d_R_passCount_21 : decode b_R_passCount 21 = .ok (.iload_n 1, 1) := by decide +kernel
theorem d_R_passCount_22 : decode b_R_passCount 22 = .ok (.iload_n 3, 1) := by decide +kernel
theorem d_R_passCount_23 : decode b_R_passCount 23 = .ok (.invokevirtual 36, 3) := by decide +kernel
theorem d_R_passCount_26 : decode b_R_passCount 26 = .ok (.invokestatic 20, 3) := by decide +kernel
theorem d_R_passCount_29 : decode b_R_passCount 29 = .ok (.istore 4, 2) := by decide +kernel
theorem d_R_passCount_31 : decode b_R_passCount 31 = .ok (.iinc 5 1, 3) := by decide +kernel
theorem d_R_passCount_34 : decode b_R_passCount 34 = .ok (.goto (-28), 3) := by decide +kernel
theorem d_R_passCount_37 : decode b_R_passCount 37 = .ok (.iload_n 1, 1) := by decide +kernel
theorem d_R_passCount_38 : decode b_R_passCount 38 = .ok (.iload 4, 2) := by decide +kernel
theorem d_R_passCount_40 : decode b_R_passCount 40 = .ok (.isub, 1) := by decide +kernel
theorem d_R_passCount_41 : decode b_R_passCount 41 = .ok (.iload_n 2, 1) := by decide +kernel
theorem d_R_passCount_42 : decode b_R_passCount 42 = .ok (.iadd, 1) := by decide +kernel
theorem d_R_passCount_43 : decode b_R_passCount 43 = .ok (.iconst 1, 1) := by decide +kernel
theorem d_R_passCount_44 : decode b_R_passCount 44 = .ok (.isub, 1) := by decide +kernel
theorem d_R_passCount_45 : decode b_R_passCount 45 = .ok (.iload_n 2, 1) := by decide +kernel
theorem d_R_passCount_46 : decode b_R_passCount 46 = .ok (.idiv, 1) := by decide +kernel
theorem d_R_passCount_47 : decode b_R_passCount 47 = .ok (.ireturn, 1) := by decide +kernel
theorem d_R_placesAbove_0 : decode b_R_placesAbove 0 = .ok (.iconst 0, 1) := by decide +kernel
theorem d_R_placesAbove_1 : decode b_R_placesAbove 1 = .ok (.istore_n 2, 1) := by decide +kernel
theorem d_R_placesAbove_2 : decode b_R_placesAbove 2 = .ok (.iconst 0, 1) := by decide +kernel
theorem d_R_placesAbove_3 : decode b_R_placesAbove 3 = .ok (.istore_n 3, 1) := by decide +kernel
theorem d_R_placesAbove_4 : decode b_R_placesAbove 4 = .ok (.iload_n 3, 1) := by decide +kernel
theorem d_R_placesAbove_5 : decode b_R_placesAbove 5 = .ok (.aload_n 0, 1) := by decide +kernel
theorem d_R_placesAbove_6 : decode b_R_placesAbove 6 = .ok (.getfield 13, 3) := by decide +kernel
theorem d_R_placesAbove_9 : decode b_R_placesAbove 9 = .ok (.arraylength, 1) := by decide +kernel
theorem d_R_placesAbove_10 : decode b_R_placesAbove 10 = .ok (.if_icmp .ge 30, 3) := by decide +kernel
theorem d_R_placesAbove_13 : decode b_R_placesAbove 13 = .ok (.iload_n 3, 1) := by decide +kernel
theorem d_R_placesAbove_14 : decode b_R_placesAbove 14 = .ok (.aload_n 1, 1) := by decide +kernel
theorem d_R_placesAbove_15 : decode b_R_placesAbove 15 = .ok (.arraylength, 1) := by decide +kernel
theorem d_R_placesAbove_16 : decode b_R_placesAbove 16 = .ok (.if_icmp .ge 24, 3) := by decide +kernel
theorem d_R_placesAbove_19 : decode b_R_placesAbove 19 = .ok (.aload_n 0, 1) := by decide +kernel
theorem d_R_placesAbove_20 : decode b_R_placesAbove 20 = .ok (.getfield 13, 3) := by decide +kernel
theorem d_R_placesAbove_23 : decode b_R_placesAbove 23 = .ok (.iload_n 3, 1) := by decide +kernel
theorem d_R_placesAbove_24 : decode b_R_placesAbove 24 = .ok (.iaload, 1) := by decide +kernel
theorem d_R_placesAbove_25 : decode b_R_placesAbove 25 = .ok (.aload_n 1, 1) := by decide +kernel
theorem d_R_placesAbove_26 : decode b_R_placesAbove 26 = .ok (.iload_n 3, 1) := by decide +kernel
theorem d_R_placesAbove_27 : decode b_R_placesAbove 27 = .ok (.iaload, 1) := by decide +kernel
theorem d_R_placesAbove_28 : decode b_R_placesAbove 28 = .ok (.if_icmp .le 6, 3) := by decide +kernel
theorem d_R_placesAbove_31 : decode b_R_placesAbove 31 = .ok (.iinc 2 1, 3) := by decide +kernel
theorem d_R_placesAbove_34 : decode b_R_placesAbove 34 = .ok (.iinc 3 1, 3) := by decide +kernel
theorem d_R_placesAbove_37 : decode b_R_placesAbove 37 = .ok (.goto (-33), 3) := by decide +kernel
theorem d_R_placesAbove_40 : decode b_R_placesAbove 40 = .ok (.iload_n 2, 1) := by decide +kernel
theorem d_R_placesAbove_41 : decode b_R_placesAbove 41 = .ok (.ireturn, 1) := by decide +kernel
theorem d_R_placesCut_0 : decode b_R_placesCut 0 = .ok (.iconst 0, 1) := by decide +kernel
theorem d_R_placesCut_1 : decode b_R_placesCut 1 = .ok (.istore 5, 2) := by decide +kernel
theorem d_R_placesCut_3 : decode b_R_placesCut 3 = .ok (.iconst 0, 1) := by decide +kernel
theorem d_R_placesCut_4 : decode b_R_placesCut 4 = .ok (.istore 6, 2) := by decide +kernel
theorem d_R_placesCut_6 : decode b_R_placesCut 6 = .ok (.iload 6, 2) := by decide +kernel
theorem d_R_placesCut_8 : decode b_R_placesCut 8 = .ok (.aload_n 0, 1) := by decide +kernel
theorem d_R_placesCut_9 : decode b_R_placesCut 9 = .ok (.getfield 13, 3) := by decide +kernel
theorem d_R_placesCut_12 : decode b_R_placesCut 12 = .ok (.arraylength, 1) := by decide +kernel
theorem d_R_placesCut_13 : decode b_R_placesCut 13 = .ok (.if_icmp .ge 26, 3) := by decide +kernel
theorem d_R_placesCut_16 : decode b_R_placesCut 16 = .ok (.aload_n 0, 1) := by decide +kernel
theorem d_R_placesCut_17 : decode b_R_placesCut 17 = .ok (.iload 6, 2) := by decide +kernel
theorem d_R_placesCut_19 : decode b_R_placesCut 19 = .ok (.iload_n 1, 1) := by decide +kernel
theorem d_R_placesCut_20 : decode b_R_placesCut 20 = .ok (.iload_n 2, 1) := by decide +kernel
theorem d_R_placesCut_21 : decode b_R_placesCut 21 = .ok (.invokevirtual 36, 3) := by decide +kernel
theorem d_R_placesCut_24 : decode b_R_placesCut 24 = .ok (.i2l, 1) := by decide +kernel
theorem d_R_placesCut_25 : decode b_R_placesCut 25 = .ok (.lload_n 3, 1) := by decide +kernel
theorem d_R_placesCut_26 : decode b_R_placesCut 26 = .ok (.lcmp, 1) := by decide +kernel
theorem d_R_placesCut_27 : decode b_R_placesCut 27 = .ok (.ifCond .ge 6, 3) := by decide +kernel
theorem d_R_placesCut_30 : decode b_R_placesCut 30 = .ok (.iinc 5 1, 3) := by decide +kernel
theorem d_R_placesCut_33 : decode b_R_placesCut 33 = .ok (.iinc 6 1, 3) := by decide +kernel
theorem d_R_placesCut_36 : decode b_R_placesCut 36 = .ok (.goto (-30), 3) := by decide +kernel
theorem d_R_placesCut_39 : decode b_R_placesCut 39 = .ok (.iload 5, 2) := by decide +kernel
theorem d_R_placesCut_41 : decode b_R_placesCut 41 = .ok (.ireturn, 1) := by decide +kernel
theorem d_R_wantedAt_0 : decode b_R_wantedAt 0 = .ok (.aload_n 0, 1) := by decide +kernel
theorem d_R_wantedAt_1 : decode b_R_wantedAt 1 = .ok (.getfield 13, 3) := by decide +kernel
theorem d_R_wantedAt_4 : decode b_R_wantedAt 4 = .ok (.iload_n 1, 1) := by decide +kernel
theorem d_R_wantedAt_5 : decode b_R_wantedAt 5 = .ok (.iaload, 1) := by decide +kernel
theorem d_R_wantedAt_6 : decode b_R_wantedAt 6 = .ok (.iload_n 3, 1) := by decide +kernel
theorem d_R_wantedAt_7 : decode b_R_wantedAt 7 = .ok (.iadd, 1) := by decide +kernel
theorem d_R_wantedAt_8 : decode b_R_wantedAt 8 = .ok (.iload_n 2, 1) := by decide +kernel
theorem d_R_wantedAt_9 : decode b_R_wantedAt 9 = .ok (.invokestatic 20, 3) := by decide +kernel
theorem d_R_wantedAt_12 : decode b_R_wantedAt 12 = .ok (.ireturn, 1) := by decide +kernel
end
section
theorem d_C_about_0 : decode b_C_about 0 = .ok (.aload_n 0, 1) := by decide +kernel
theorem d_C_about_1 : decode b_C_about 1 = .ok (.iload_n 1, 1) := by decide +kernel
theorem d_C_about_2 : decode b_C_about 2 = .ok (.invokevirtual 94, 3) := by decide +kernel
theorem d_C_about_5 : decode b_C_about 5 = .ok (.astore_n 3, 1) := by decide +kernel
theorem d_C_about_6 : decode b_C_about 6 = .ok (.iload_n 2, 1) := by decide +kernel
theorem d_C_about_7 : decode b_C_about 7 = .ok (.tableswitch 40 0 2 #[25, 30, 35], 25) := by decide +kernel
theorem d_C_about_32 : decode b_C_about 32 = .ok (.aload_n 3, 1) := by decide +kernel
theorem d_C_about_33 : decode b_C_about 33 = .ok (.getfield 98, 3) := by decide +kernel
theorem d_C_about_36 : decode b_C_about 36 = .ok (.ireturn, 1) := by decide +kernel
theorem d_C_about_37 : decode b_C_about 37 = .ok (.aload_n 3, 1) := by decide +kernel
theorem d_C_about_38 : decode b_C_about 38 = .ok (.getfield 101, 3) := by decide +kernel
theorem d_C_about_41 : decode b_C_about 41 = .ok (.ireturn, 1) := by decide +kernel
theorem d_C_about_42 : decode b_C_about 42 = .ok (.aload_n 3, 1) := by decide +kernel
theorem d_C_about_43 : decode b_C_about 43 = .ok (.getfield 104, 3) := by decide +kernel
theorem d_C_about_46 : decode b_C_about 46 = .ok (.ireturn, 1) := by decide +kernel
theorem d_C_about_47 : decode b_C_about 47 = .ok (.new 105, 3) := by decide +kernel
theorem d_C_about_50 : decode b_C_about 50 = .ok (.dup, 1) := by decide +kernel
theorem d_C_about_51 : decode b_C_about 51 = .ok (.ldc 107, 2) := by decide +kernel
theorem d_C_about_53 : decode b_C_about 53 = .ok (.invokespecial 109, 3) := by decide +kernel
theorem d_C_about_56 : decode b_C_about 56 = .ok (.athrow, 1) := by decide +kernel
theorem d_C_arc_0 : decode b_C_arc 0 = .ok (.iload_n 1, 1) := by decide +kernel
theorem d_C_arc_1 : decode b_C_arc 1 = .ok (.iload_n 2, 1) := by decide +kernel
theorem d_C_arc_2 : decode b_C_arc 2 = .ok (.invokestatic 55, 3) := by decide +kernel
theorem d_C_arc_5 : decode b_C_arc 5 = .ok (.iload_n 3, 1) := by decide +kernel
theorem d_C_arc_6 : decode b_C_arc 6 = .ok (.sipush (-200), 3) := by decide +kernel
theorem d_C_arc_9 : decode b_C_arc 9 = .ok (.sipush 300, 3) := by decide +kernel
theorem d_C_arc_12 : decode b_C_arc 12 = .ok (.invokestatic 47, 3) := by decide +kernel
theorem d_C_arc_15 : decode b_C_arc 15 = .ok (.iload 4, 2) := by decide +kernel
theorem d_C_arc_17 : decode b_C_arc 17 = .ok (.sipush (-1000), 3) := by decide +kernel
theorem d_C_arc_20 : decode b_C_arc 20 = .ok (.sipush 1500, 3) := by decide +kernel
theorem d_C_arc_23 : decode b_C_arc 23 = .ok (.invokestatic 47, 3) := by decide +kernel
theorem d_C_arc_26 : decode b_C_arc 26 = .ok (.aload_n 0, 1) := by decide +kernel
theorem d_C_arc_27 : decode b_C_arc 27 = .ok (.iload_n 1, 1) := by decide +kernel
theorem d_C_arc_28 : decode b_C_arc 28 = .ok (.invokevirtual 59, 3) := by decide +kernel
theorem d_C_arc_31 : decode b_C_arc 31 = .ok (.aload_n 0, 1) := by decide +kernel
theorem d_C_arc_32 : decode b_C_arc 32 = .ok (.getfield 10, 3) := by decide +kernel
theorem d_C_arc_35 : decode b_C_arc 35 = .ok (.iload_n 1, 1) := by decide +kernel
theorem d_C_arc_36 : decode b_C_arc 36 = .ok (.iload_n 2, 1) := by decide +kernel
theorem d_C_arc_37 : decode b_C_arc 37 = .ok (.iload_n 3, 1) := by decide +kernel
theorem d_C_arc_38 : decode b_C_arc 38 = .ok (.iload 4, 2) := by decide +kernel
theorem d_C_arc_40 : decode b_C_arc 40 = .ok (.iload 5, 2) := by decide +kernel
theorem d_C_arc_42 : decode b_C_arc 42 = .ok (.invokevirtual 69, 3) := by decide +kernel
theorem d_C_arc_45 : decode b_C_arc 45 = .ok (.ifCond .ne 5, 3) := by decide +kernel
theorem d_C_arc_48 : decode b_C_arc 48 = .ok (.iconst 0, 1) := by decide +kernel
theorem d_C_arc_49 : decode b_C_arc 49 = .ok (.ireturn, 1) := by decide +kernel
theorem d_C_arc_50 : decode b_C_arc 50 = .ok (.aload_n 0, 1) := by decide +kernel
theorem d_C_arc_51 : decode b_C_arc 51 = .ok (.getfield 10, 3) := by decide +kernel
theorem d_C_arc_54 : decode b_C_arc 54 = .ok (.iload_n 1, 1) := by decide +kernel
theorem d_C_arc_55 : decode b_C_arc 55 = .ok (.iload_n 2, 1) := by decide +kernel
theorem d_C_arc_56 : decode b_C_arc 56 = .ok (.iload_n 3, 1) := by decide +kernel
theorem d_C_arc_57 : decode b_C_arc 57 = .ok (.iload 4, 2) := by decide +kernel
theorem d_C_arc_59 : decode b_C_arc 59 = .ok (.iload 5, 2) := by decide +kernel
theorem d_C_arc_61 : decode b_C_arc 61 = .ok (.invokevirtual 73, 3) := by decide +kernel
theorem d_C_arc_64 : decode b_C_arc 64 = .ok (.iconst 1, 1) := by decide +kernel
theorem d_C_arc_65 : decode b_C_arc 65 = .ok (.ireturn, 1) := by decide +kernel
theorem d_C_checkBehindLast_0 : decode b_C_checkBehindLast 0 = .ok (.aload_n 0, 1) := by decide +kernel
theorem d_C_checkBehindLast_1 : decode b_C_checkBehindLast 1 = .ok (.getfield 10, 3) := by decide +kernel
theorem d_C_checkBehindLast_4 : decode b_C_checkBehindLast 4 = .ok (.getfield 255, 3) := by decide +kernel
theorem d_C_checkBehindLast_7 : decode b_C_checkBehindLast 7 = .ok (.ifCond .ne 14, 3) := by decide +kernel
theorem d_C_checkBehindLast_10 : decode b_C_checkBehindLast 10 = .ok (.new 80, 3) := by decide +kernel
theorem d_C_checkBehindLast_13 : decode b_C_checkBehindLast 13 = .ok (.dup, 1) := by decide +kernel
theorem d_C_checkBehindLast_14 : decode b_C_checkBehindLast 14 = .ok (.ldc_w 259, 3) := by decide +kernel
theorem d_C_checkBehindLast_17 : decode b_C_checkBehindLast 17 = .ok (.invokespecial 84, 3) := by decide +kernel
theorem d_C_checkBehindLast_20 : decode b_C_checkBehindLast 20 = .ok (.athrow, 1) := by decide +kernel
theorem d_C_checkBehindLast_21 : decode b_C_checkBehindLast 21 = .ok (.iload_n 1, 1) := by decide +kernel
theorem d_C_checkBehindLast_22 : decode b_C_checkBehindLast 22 = .ok (.aload_n 0, 1) := by decide +kernel
theorem d_C_checkBehindLast_23 : decode b_C_checkBehindLast 23 = .ok (.getfield 10, 3) := by decide +kernel
theorem d_C_checkBehindLast_26 : decode b_C_checkBehindLast 26 = .ok (.getfield 261, 3) := by decide +kernel
theorem d_C_checkBehindLast_29 : decode b_C_checkBehindLast 29 = .ok (.if_icmp .gt 14, 3) := by decide +kernel
theorem d_C_checkBehindLast_32 : decode b_C_checkBehindLast 32 = .ok (.new 230, 3) := by decide +kernel
theorem d_C_checkBehindLast_35 : decode b_C_checkBehindLast 35 = .ok (.dup, 1) := by decide +kernel
theorem d_C_checkBehindLast_36 : decode b_C_checkBehindLast 36 = .ok (.ldc_w 264, 3) := by decide +kernel
theorem d_C_checkBehindLast_39 : decode b_C_checkBehindLast 39 = .ok (.invokespecial 234, 3) := by decide +kernel
theorem d_C_checkBehindLast_42 : decode b_C_checkBehindLast 42 = .ok (.athrow, 1) := by decide +kernel
theorem d_C_checkBehindLast_43 : decode b_C_checkBehindLast 43 = .ok (.return_, 1) := by decide +kernel
theorem d_C_checkNumber_0 : decode b_C_checkNumber 0 = .ok (.iload_n 0, 1) := by decide +kernel
theorem d_C_checkNumber_1 : decode b_C_checkNumber 1 = .ok (.iload_n 1, 1) := by decide +kernel
theorem d_C_checkNumber_2 : decode b_C_checkNumber 2 = .ok (.if_icmp .lt 8, 3) := by decide +kernel
theorem d_C_checkNumber_5 : decode b_C_checkNumber 5 = .ok (.iload_n 0, 1) := by decide +kernel
theorem d_C_checkNumber_6 : decode b_C_checkNumber 6 = .ok (.iload_n 2, 1) := by decide +kernel
theorem d_C_checkNumber_7 : decode b_C_checkNumber 7 = .ok (.if_icmp .le 14, 3) := by decide +kernel
theorem d_C_checkNumber_10 : decode b_C_checkNumber 10 = .ok (.new 230, 3) := by decide +kernel
theorem d_C_checkNumber_13 : decode b_C_checkNumber 13 = .ok (.dup, 1) := by decide +kernel
theorem d_C_checkNumber_14 : decode b_C_checkNumber 14 = .ok (.ldc_w 266, 3) := by decide +kernel
theorem d_C_checkNumber_17 : decode b_C_checkNumber 17 = .ok (.invokespecial 234, 3) := by decide +kernel
theorem d_C_checkNumber_20 : decode b_C_checkNumber 20 = .ok (.athrow, 1) := by decide +kernel
theorem d_C_checkNumber_21 : decode b_C_checkNumber 21 = .ok (.return_, 1) := by decide +kernel
theorem d_C_checkPart_0 : decode b_C_checkPart 0 = .ok (.iload_n 0, 1) := by decide +kernel
theorem d_C_checkPart_1 : decode b_C_checkPart 1 = .ok (.ifCond .eq 19, 3) := by decide +kernel
theorem d_C_checkPart_4 : decode b_C_checkPart 4 = .ok (.iload_n 0, 1) := by decide +kernel
theorem d_C_checkPart_5 : decode b_C_checkPart 5 = .ok (.iconst 1, 1) := by decide +kernel
theorem d_C_checkPart_6 : decode b_C_checkPart 6 = .ok (.if_icmp .eq 14, 3) := by decide +kernel
theorem d_C_checkPart_9 : decode b_C_checkPart 9 = .ok (.new 105, 3) := by decide +kernel
theorem d_C_checkPart_12 : decode b_C_checkPart 12 = .ok (.dup, 1) := by decide +kernel
theorem d_C_checkPart_13 : decode b_C_checkPart 13 = .ok (.ldc_w 268, 3) := by decide +kernel
theorem d_C_checkPart_16 : decode b_C_checkPart 16 = .ok (.invokespecial 109, 3) := by decide +kernel
theorem d_C_checkPart_19 : decode b_C_checkPart 19 = .ok (.athrow, 1) := by decide +kernel
theorem d_C_checkPart_20 : decode b_C_checkPart 20 = .ok (.return_, 1) := by decide +kernel
theorem d_C_checkRough_0 : decode b_C_checkRough 0 = .ok (.iload_n 0, 1) := by decide +kernel
theorem d_C_checkRough_1 : decode b_C_checkRough 1 = .ok (.iconst 1, 1) := by decide +kernel
theorem d_C_checkRough_2 : decode b_C_checkRough 2 = .ok (.bipush 100, 2) := by decide +kernel
theorem d_C_checkRough_4 : decode b_C_checkRough 4 = .ok (.invokestatic 47, 3) := by decide +kernel
theorem d_C_checkRough_7 : decode b_C_checkRough 7 = .ok (.iload_n 1, 1) := by decide +kernel
theorem d_C_checkRough_8 : decode b_C_checkRough 8 = .ok (.iconst 0, 1) := by decide +kernel
theorem d_C_checkRough_9 : decode b_C_checkRough 9 = .ok (.bipush 50, 2) := by decide +kernel
theorem d_C_checkRough_11 : decode b_C_checkRough 11 = .ok (.invokestatic 47, 3) := by decide +kernel
theorem d_C_checkRough_14 : decode b_C_checkRough 14 = .ok (.return_, 1) := by decide +kernel
theorem d_C_checkWayEnd_0 : decode b_C_checkWayEnd 0 = .ok (.iload_n 0, 1) := by decide +kernel
theorem d_C_checkWayEnd_1 : decode b_C_checkWayEnd 1 = .ok (.iconst 1, 1) := by decide +kernel
theorem d_C_checkWayEnd_2 : decode b_C_checkWayEnd 2 = .ok (.bipush 64, 2) := by decide +kernel
theorem d_C_checkWayEnd_4 : decode b_C_checkWayEnd 4 = .ok (.invokestatic 47, 3) := by decide +kernel
theorem d_C_checkWayEnd_7 : decode b_C_checkWayEnd 7 = .ok (.iload_n 1, 1) := by decide +kernel
theorem d_C_checkWayEnd_8 : decode b_C_checkWayEnd 8 = .ok (.iconst 0, 1) := by decide +kernel
theorem d_C_checkWayEnd_9 : decode b_C_checkWayEnd 9 = .ok (.sipush 500, 3) := by decide +kernel
theorem d_C_checkWayEnd_12 : decode b_C_checkWayEnd 12 = .ok (.invokestatic 47, 3) := by decide +kernel
theorem d_C_checkWayEnd_15 : decode b_C_checkWayEnd 15 = .ok (.return_, 1) := by decide +kernel
theorem d_C_closes_0 : decode b_C_closes 0 = .ok (.aload_n 0, 1) := by decide +kernel
theorem d_C_closes_1 : decode b_C_closes 1 = .ok (.iload_n 1, 1) := by decide +kernel
theorem d_C_closes_2 : decode b_C_closes 2 = .ok (.invokevirtual 181, 3) := by decide +kernel
theorem d_C_closes_5 : decode b_C_closes 5 = .ok (.invokevirtual 210, 3) := by decide +kernel
theorem d_C_closes_8 : decode b_C_closes 8 = .ok (.lconst 0, 1) := by decide +kernel
theorem d_C_closes_9 : decode b_C_closes 9 = .ok (.lcmp, 1) := by decide +kernel
theorem d_C_closes_10 : decode b_C_closes 10 = .ok (.ifCond .ne 7, 3) := by decide +kernel
theorem d_C_closes_13 : decode b_C_closes 13 = .ok (.iconst 1, 1) := by decide +kernel
theorem d_C_closes_14 : decode b_C_closes 14 = .ok (.goto 4, 3) := by decide +kernel
theorem d_C_closes_17 : decode b_C_closes 17 = .ok (.iconst 0, 1) := by decide +kernel
theorem d_C_closes_18 : decode b_C_closes 18 = .ok (.ireturn, 1) := by decide +kernel
theorem d_C_commonDivisor_0 : decode b_C_commonDivisor 0 = .ok (.iconst 0, 1) := by decide +kernel
theorem d_C_commonDivisor_1 : decode b_C_commonDivisor 1 = .ok (.istore 4, 2) := by decide +kernel
theorem d_C_commonDivisor_3 : decode b_C_commonDivisor 3 = .ok (.iload 4, 2) := by decide +kernel
theorem d_C_commonDivisor_5 : decode b_C_commonDivisor 5 = .ok (.bipush 100, 2) := by decide +kernel
theorem d_C_commonDivisor_7 : decode b_C_commonDivisor 7 = .ok (.if_icmp .ge 25, 3) := by decide +kernel
theorem d_C_commonDivisor_10 : decode b_C_commonDivisor 10 = .ok (.lload_n 2, 1) := by decide +kernel
theorem d_C_commonDivisor_11 : decode b_C_commonDivisor 11 = .ok (.lconst 0, 1) := by decide +kernel
theorem d_C_commonDivisor_12 : decode b_C_commonDivisor 12 = .ok (.lcmp, 1) := by decide +kernel
theorem d_C_commonDivisor_13 : decode b_C_commonDivisor 13 = .ok (.ifCond .le 19, 3) := by decide +kernel
theorem d_C_commonDivisor_16 : decode b_C_commonDivisor 16 = .ok (.lload_n 0, 1) := by decide +kernel
theorem d_C_commonDivisor_17 : decode b_C_commonDivisor 17 = .ok (.lload_n 2, 1) := by decide +kernel
theorem d_C_commonDivisor_18 : decode b_C_commonDivisor 18 = .ok (.lrem, 1) := by decide +kernel
theorem d_C_commonDivisor_19 : decode b_C_commonDivisor 19 = .ok (.lstore 5, 2) := by decide +kernel
theorem d_C_commonDivisor_21 : decode b_C_commonDivisor 21 = .ok (.lload_n 2, 1) := by decide +kernel
theorem d_C_commonDivisor_22 : decode b_C_commonDivisor 22 = .ok (.lstore_n 0, 1) := by decide +kernel
theorem d_C_commonDivisor_23 : decode b_C_commonDivisor 23 = .ok (.lload 5, 2) := by decide +kernel
theorem d_C_commonDivisor_25 : decode b_C_commonDivisor 25 = .ok (.lstore_n 2, 1) := by decide +kernel
theorem d_C_commonDivisor_26 : decode b_C_commonDivisor 26 = .ok (.iinc 4 1, 3) := by decide +kernel
theorem d_C_commonDivisor_29 : decode b_C_commonDivisor 29 = .ok (.goto (-26), 3) := by decide +kernel
theorem d_C_commonDivisor_32 : decode b_C_commonDivisor 32 = .ok (.lload_n 0, 1) := by decide +kernel
theorem d_C_commonDivisor_33 : decode b_C_commonDivisor 33 = .ok (.lreturn, 1) := by decide +kernel
theorem d_C_copy_0 : decode b_C_copy 0 = .ok (.aload_n 0, 1) := by decide +kernel
theorem d_C_copy_1 : decode b_C_copy 1 = .ok (.iload_n 1, 1) := by decide +kernel
theorem d_C_copy_2 : decode b_C_copy 2 = .ok (.invokevirtual 94, 3) := by decide +kernel
theorem d_C_copy_5 : decode b_C_copy 5 = .ok (.aload_n 0, 1) := by decide +kernel
theorem d_C_copy_6 : decode b_C_copy 6 = .ok (.iload_n 2, 1) := by decide +kernel
theorem d_C_copy_7 : decode b_C_copy 7 = .ok (.invokevirtual 94, 3) := by decide +kernel
theorem d_C_copy_10 : decode b_C_copy 10 = .ok (.invokevirtual 171, 3) := by decide +kernel
theorem d_C_copy_13 : decode b_C_copy 13 = .ok (.ireturn, 1) := by decide +kernel
theorem d_C_cut_0 : decode b_C_cut 0 = .ok (.aload_n 0, 1) := by decide +kernel
theorem d_C_cut_1 : decode b_C_cut 1 = .ok (.iload_n 1, 1) := by decide +kernel
theorem d_C_cut_2 : decode b_C_cut 2 = .ok (.iload_n 2, 1) := by decide +kernel
theorem d_C_cut_3 : decode b_C_cut 3 = .ok (.invokevirtual 117, 3) := by decide +kernel
theorem d_C_cut_6 : decode b_C_cut 6 = .ok (.astore 6, 2) := by decide +kernel
theorem d_C_cut_8 : decode b_C_cut 8 = .ok (.iload_n 3, 1) := by decide +kernel
theorem d_C_cut_9 : decode b_C_cut 9 = .ok (.iload 4, 2) := by decide +kernel
theorem d_C_cut_11 : decode b_C_cut 11 = .ok (.invokestatic 133, 3) := by decide +kernel
theorem d_C_cut_14 : decode b_C_cut 14 = .ok (.iload 5, 2) := by decide +kernel
theorem d_C_cut_16 : decode b_C_cut 16 = .ok (.iconst 1, 1) := by decide +kernel
theorem d_C_cut_17 : decode b_C_cut 17 = .ok (.ldc 142, 2) := by decide +kernel
theorem d_C_cut_19 : decode b_C_cut 19 = .ok (.invokestatic 47, 3) := by decide +kernel
theorem d_C_cut_22 : decode b_C_cut 22 = .ok (.aload_n 0, 1) := by decide +kernel
theorem d_C_cut_23 : decode b_C_cut 23 = .ok (.iload_n 1, 1) := by decide +kernel
theorem d_C_cut_24 : decode b_C_cut 24 = .ok (.invokevirtual 94, 3) := by decide +kernel
theorem d_C_cut_27 : decode b_C_cut 27 = .ok (.getfield 101, 3) := by decide +kernel
theorem d_C_cut_30 : decode b_C_cut 30 = .ok (.istore 7, 2) := by decide +kernel
theorem d_C_cut_32 : decode b_C_cut 32 = .ok (.aload 6, 2) := by decide +kernel
theorem d_C_cut_34 : decode b_C_cut 34 = .ok (.iload 7, 2) := by decide +kernel
theorem d_C_cut_36 : decode b_C_cut 36 = .ok (.iload 4, 2) := by decide +kernel
theorem d_C_cut_38 : decode b_C_cut 38 = .ok (.iload 7, 2) := by decide +kernel
theorem d_C_cut_40 : decode b_C_cut 40 = .ok (.i2l, 1) := by decide +kernel
theorem d_C_cut_41 : decode b_C_cut 41 = .ok (.iload 5, 2) := by decide +kernel
theorem d_C_cut_43 : decode b_C_cut 43 = .ok (.i2l, 1) := by decide +kernel
theorem d_C_cut_44 : decode b_C_cut 44 = .ok (.lconst 1, 1) := by decide +kernel
theorem d_C_cut_45 : decode b_C_cut 45 = .ok (.lsub, 1) := by decide +kernel
theorem d_C_cut_46 : decode b_C_cut 46 = .ok (.iload_n 3, 1) := by decide +kernel
theorem d_C_cut_47 : decode b_C_cut 47 = .ok (.i2l, 1) := by decide +kernel
theorem d_C_cut_48 : decode b_C_cut 48 = .ok (.lmul, 1) := by decide +kernel
theorem d_C_cut_49 : decode b_C_cut 49 = .ok (.lsub, 1) := by decide +kernel
theorem d_C_cut_50 : decode b_C_cut 50 = .ok (.invokevirtual 143, 3) := by decide +kernel
theorem d_C_cut_53 : decode b_C_cut 53 = .ok (.ireturn, 1) := by decide +kernel
theorem d_C_flute_0 : decode b_C_flute 0 = .ok (.iload_n 3, 1) := by decide +kernel
theorem d_C_flute_1 : decode b_C_flute 1 = .ok (.invokestatic 195, 3) := by decide +kernel
theorem d_C_flute_4 : decode b_C_flute 4 = .ok (.iload_n 1, 1) := by decide +kernel
theorem d_C_flute_5 : decode b_C_flute 5 = .ok (.iconst 1, 1) := by decide +kernel
theorem d_C_flute_6 : decode b_C_flute 6 = .ok (.sipush 1000, 3) := by decide +kernel
theorem d_C_flute_9 : decode b_C_flute 9 = .ok (.invokestatic 47, 3) := by decide +kernel
theorem d_C_flute_12 : decode b_C_flute 12 = .ok (.iload_n 2, 1) := by decide +kernel
theorem d_C_flute_13 : decode b_C_flute 13 = .ok (.iconst 0, 1) := by decide +kernel
theorem d_C_flute_14 : decode b_C_flute 14 = .ok (.iload_n 1, 1) := by decide +kernel
theorem d_C_flute_15 : decode b_C_flute 15 = .ok (.iconst 1, 1) := by decide +kernel
theorem d_C_flute_16 : decode b_C_flute 16 = .ok (.isub, 1) := by decide +kernel
theorem d_C_flute_17 : decode b_C_flute 17 = .ok (.invokestatic 47, 3) := by decide +kernel
theorem d_C_flute_20 : decode b_C_flute 20 = .ok (.iload_n 2, 1) := by decide +kernel
theorem d_C_flute_21 : decode b_C_flute 21 = .ok (.i2l, 1) := by decide +kernel
theorem d_C_flute_22 : decode b_C_flute 22 = .ok (.ldc2_w 216, 3) := by decide +kernel
theorem d_C_flute_25 : decode b_C_flute 25 = .ok (.lmul, 1) := by decide +kernel
theorem d_C_flute_26 : decode b_C_flute 26 = .ok (.iload_n 1, 1) := by decide +kernel
theorem d_C_flute_27 : decode b_C_flute 27 = .ok (.i2l, 1) := by decide +kernel
theorem d_C_flute_28 : decode b_C_flute 28 = .ok (.iload_n 3, 1) := by decide +kernel
theorem d_C_flute_29 : decode b_C_flute 29 = .ok (.invokestatic 206, 3) := by decide +kernel
theorem d_C_flute_32 : decode b_C_flute 32 = .ok (.lreturn, 1) := by decide +kernel
theorem d_C_fractionPart_0 : decode b_C_fractionPart 0 = .ok (.lload_n 2, 1) := by decide +kernel
theorem d_C_fractionPart_1 : decode b_C_fractionPart 1 = .ok (.lload_n 0, 1) := by decide +kernel
theorem d_C_fractionPart_2 : decode b_C_fractionPart 2 = .ok (.invokestatic 270, 3) := by decide +kernel
theorem d_C_fractionPart_5 : decode b_C_fractionPart 5 = .ok (.invokestatic 274, 3) := by decide +kernel
theorem d_C_fractionPart_8 : decode b_C_fractionPart 8 = .ok (.lstore 5, 2) := by decide +kernel
theorem d_C_fractionPart_10 : decode b_C_fractionPart 10 = .ok (.iload 4, 2) := by decide +kernel
theorem d_C_fractionPart_12 : decode b_C_fractionPart 12 = .ok (.ifCond .ne 7, 3) := by decide +kernel
theorem d_C_fractionPart_15 : decode b_C_fractionPart 15 = .ok (.lload_n 0, 1) := by decide +kernel
theorem d_C_fractionPart_16 : decode b_C_fractionPart 16 = .ok (.goto 4, 3) := by decide +kernel
theorem d_C_fractionPart_19 : decode b_C_fractionPart 19 = .ok (.lload_n 2, 1) := by decide +kernel
theorem d_C_fractionPart_20 : decode b_C_fractionPart 20 = .ok (.lload 5, 2) := by decide +kernel
theorem d_C_fractionPart_22 : decode b_C_fractionPart 22 = .ok (.ldiv, 1) := by decide +kernel
theorem d_C_fractionPart_23 : decode b_C_fractionPart 23 = .ok (.lreturn, 1) := by decide +kernel
theorem d_C_gap_0 : decode b_C_gap 0 = .ok (.aload_n 0, 1) := by decide +kernel
theorem d_C_gap_1 : decode b_C_gap 1 = .ok (.iload_n 1, 1) := by decide +kernel
theorem d_C_gap_2 : decode b_C_gap 2 = .ok (.invokevirtual 181, 3) := by decide +kernel
theorem d_C_gap_5 : decode b_C_gap 5 = .ok (.astore_n 3, 1) := by decide +kernel
theorem d_C_gap_6 : decode b_C_gap 6 = .ok (.iload_n 2, 1) := by decide +kernel
theorem d_C_gap_7 : decode b_C_gap 7 = .ok (.invokestatic 195, 3) := by decide +kernel
theorem d_C_gap_10 : decode b_C_gap 10 = .ok (.aload_n 3, 1) := by decide +kernel
theorem d_C_gap_11 : decode b_C_gap 11 = .ok (.invokevirtual 210, 3) := by decide +kernel
theorem d_C_gap_14 : decode b_C_gap 14 = .ok (.ldc2_w 214, 3) := by decide +kernel
theorem d_C_gap_17 : decode b_C_gap 17 = .ok (.iload_n 2, 1) := by decide +kernel
theorem d_C_gap_18 : decode b_C_gap 18 = .ok (.invokestatic 206, 3) := by decide +kernel
theorem d_C_gap_21 : decode b_C_gap 21 = .ok (.lreturn, 1) := by decide +kernel
theorem d_C_hollow_0 : decode b_C_hollow 0 = .ok (.aload_n 0, 1) := by decide +kernel
theorem d_C_hollow_1 : decode b_C_hollow 1 = .ok (.iload_n 1, 1) := by decide +kernel
theorem d_C_hollow_2 : decode b_C_hollow 2 = .ok (.invokevirtual 94, 3) := by decide +kernel
theorem d_C_hollow_5 : decode b_C_hollow 5 = .ok (.astore 4, 2) := by decide +kernel
theorem d_C_hollow_7 : decode b_C_hollow 7 = .ok (.iload_n 2, 1) := by decide +kernel
theorem d_C_hollow_8 : decode b_C_hollow 8 = .ok (.iconst 1, 1) := by decide +kernel
theorem d_C_hollow_9 : decode b_C_hollow 9 = .ok (.bipush 100, 2) := by decide +kernel
theorem d_C_hollow_11 : decode b_C_hollow 11 = .ok (.invokestatic 47, 3) := by decide +kernel
theorem d_C_hollow_14 : decode b_C_hollow 14 = .ok (.iload_n 3, 1) := by decide +kernel
theorem d_C_hollow_15 : decode b_C_hollow 15 = .ok (.iconst 0, 1) := by decide +kernel
theorem d_C_hollow_16 : decode b_C_hollow 16 = .ok (.bipush 100, 2) := by decide +kernel
theorem d_C_hollow_18 : decode b_C_hollow 18 = .ok (.invokestatic 47, 3) := by decide +kernel
theorem d_C_hollow_21 : decode b_C_hollow 21 = .ok (.aload 4, 2) := by decide +kernel
theorem d_C_hollow_23 : decode b_C_hollow 23 = .ok (.iload_n 2, 1) := by decide +kernel
theorem d_C_hollow_24 : decode b_C_hollow 24 = .ok (.iload_n 3, 1) := by decide +kernel
theorem d_C_hollow_25 : decode b_C_hollow 25 = .ok (.iadd, 1) := by decide +kernel
theorem d_C_hollow_26 : decode b_C_hollow 26 = .ok (.invokevirtual 167, 3) := by decide +kernel
theorem d_C_hollow_29 : decode b_C_hollow 29 = .ok (.ireturn, 1) := by decide +kernel
theorem d_C_init_0 : decode b_C_init 0 = .ok (.aload_n 0, 1) := by decide +kernel
theorem d_C_init_1 : decode b_C_init 1 = .ok (.invokespecial 1, 3) := by decide +kernel
theorem d_C_init_4 : decode b_C_init 4 = .ok (.aload_n 0, 1) := by decide +kernel
theorem d_C_init_5 : decode b_C_init 5 = .ok (.new 7, 3) := by decide +kernel
theorem d_C_init_8 : decode b_C_init 8 = .ok (.dup, 1) := by decide +kernel
theorem d_C_init_9 : decode b_C_init 9 = .ok (.invokespecial 9, 3) := by decide +kernel
theorem d_C_init_12 : decode b_C_init 12 = .ok (.putfield 10, 3) := by decide +kernel
theorem d_C_init_15 : decode b_C_init 15 = .ok (.aload_n 0, 1) := by decide +kernel
theorem d_C_init_16 : decode b_C_init 16 = .ok (.bipush 6, 2) := by decide +kernel
theorem d_C_init_18 : decode b_C_init 18 = .ok (.anewarray 16, 3) := by decide +kernel
theorem d_C_init_21 : decode b_C_init 21 = .ok (.putfield 18, 3) := by decide +kernel
theorem d_C_init_24 : decode b_C_init 24 = .ok (.aload_n 0, 1) := by decide +kernel
theorem d_C_init_25 : decode b_C_init 25 = .ok (.bipush 6, 2) := by decide +kernel
theorem d_C_init_27 : decode b_C_init 27 = .ok (.anewarray 22, 3) := by decide +kernel
theorem d_C_init_30 : decode b_C_init 30 = .ok (.putfield 24, 3) := by decide +kernel
theorem d_C_init_33 : decode b_C_init 33 = .ok (.aload_n 0, 1) := by decide +kernel
theorem d_C_init_34 : decode b_C_init 34 = .ok (.bipush 36, 2) := by decide +kernel
theorem d_C_init_36 : decode b_C_init 36 = .ok (.anewarray 28, 3) := by decide +kernel
theorem d_C_init_39 : decode b_C_init 39 = .ok (.putfield 30, 3) := by decide +kernel
theorem d_C_init_42 : decode b_C_init 42 = .ok (.aload_n 0, 1) := by decide +kernel
theorem d_C_init_43 : decode b_C_init 43 = .ok (.bipush 6, 2) := by decide +kernel
theorem d_C_init_45 : decode b_C_init 45 = .ok (.anewarray 34, 3) := by decide +kernel
theorem d_C_init_48 : decode b_C_init 48 = .ok (.putfield 36, 3) := by decide +kernel
theorem d_C_init_51 : decode b_C_init 51 = .ok (.aload_n 0, 1) := by decide +kernel
theorem d_C_init_52 : decode b_C_init 52 = .ok (.bipush 8, 2) := by decide +kernel
theorem d_C_init_54 : decode b_C_init 54 = .ok (.newarray .int, 2) := by decide +kernel
theorem d_C_init_56 : decode b_C_init 56 = .ok (.putfield 40, 3) := by decide +kernel
theorem d_C_init_59 : decode b_C_init 59 = .ok (.aload_n 0, 1) := by decide +kernel
theorem d_C_init_60 : decode b_C_init 60 = .ok (.bipush 8, 2) := by decide +kernel
theorem d_C_init_62 : decode b_C_init 62 = .ok (.newarray .int, 2) := by decide +kernel
theorem d_C_init_64 : decode b_C_init 64 = .ok (.putfield 44, 3) := by decide +kernel
theorem d_C_init_67 : decode b_C_init 67 = .ok (.return_, 1) := by decide +kernel
theorem d_C_left_0 : decode b_C_left 0 = .ok (.aload_n 0, 1) := by decide +kernel
theorem d_C_left_1 : decode b_C_left 1 = .ok (.iload_n 1, 1) := by decide +kernel
theorem d_C_left_2 : decode b_C_left 2 = .ok (.iload_n 2, 1) := by decide +kernel
theorem d_C_left_3 : decode b_C_left 3 = .ok (.invokevirtual 117, 3) := by decide +kernel
theorem d_C_left_6 : decode b_C_left 6 = .ok (.aload_n 0, 1) := by decide +kernel
theorem d_C_left_7 : decode b_C_left 7 = .ok (.iload_n 1, 1) := by decide +kernel
theorem d_C_left_8 : decode b_C_left 8 = .ok (.invokevirtual 94, 3) := by decide +kernel
theorem d_C_left_11 : decode b_C_left 11 = .ok (.getfield 126, 3) := by decide +kernel
theorem d_C_left_14 : decode b_C_left 14 = .ok (.invokevirtual 129, 3) := by decide +kernel
theorem d_C_left_17 : decode b_C_left 17 = .ok (.ireturn, 1) := by decide +kernel
theorem d_C_line_0 : decode b_C_line 0 = .ok (.iload_n 1, 1) := by decide +kernel
theorem d_C_line_1 : decode b_C_line 1 = .ok (.iload_n 2, 1) := by decide +kernel
theorem d_C_line_2 : decode b_C_line 2 = .ok (.invokestatic 55, 3) := by decide +kernel
theorem d_C_line_5 : decode b_C_line 5 = .ok (.aload_n 0, 1) := by decide +kernel
theorem d_C_line_6 : decode b_C_line 6 = .ok (.iload_n 1, 1) := by decide +kernel
theorem d_C_line_7 : decode b_C_line 7 = .ok (.invokevirtual 59, 3) := by decide +kernel
theorem d_C_line_10 : decode b_C_line 10 = .ok (.aload_n 0, 1) := by decide +kernel
theorem d_C_line_11 : decode b_C_line 11 = .ok (.getfield 10, 3) := by decide +kernel
theorem d_C_line_14 : decode b_C_line 14 = .ok (.iload_n 1, 1) := by decide +kernel
theorem d_C_line_15 : decode b_C_line 15 = .ok (.iload_n 2, 1) := by decide +kernel
theorem d_C_line_16 : decode b_C_line 16 = .ok (.invokevirtual 62, 3) := by decide +kernel
theorem d_C_line_19 : decode b_C_line 19 = .ok (.aload_n 0, 1) := by decide +kernel
theorem d_C_line_20 : decode b_C_line 20 = .ok (.getfield 10, 3) := by decide +kernel
theorem d_C_line_23 : decode b_C_line 23 = .ok (.getfield 65, 3) := by decide +kernel
theorem d_C_line_26 : decode b_C_line 26 = .ok (.ireturn, 1) := by decide +kernel
theorem d_C_mitre_0 : decode b_C_mitre 0 = .ok (.aload_n 0, 1) := by decide +kernel
theorem d_C_mitre_1 : decode b_C_mitre 1 = .ok (.iload_n 1, 1) := by decide +kernel
theorem d_C_mitre_2 : decode b_C_mitre 2 = .ok (.invokevirtual 181, 3) := by decide +kernel
theorem d_C_mitre_5 : decode b_C_mitre 5 = .ok (.astore 4, 2) := by decide +kernel
theorem d_C_mitre_7 : decode b_C_mitre 7 = .ok (.iload_n 2, 1) := by decide +kernel
theorem d_C_mitre_8 : decode b_C_mitre 8 = .ok (.ifCond .lt 12, 3) := by decide +kernel
theorem d_C_mitre_11 : decode b_C_mitre 11 = .ok (.iload_n 2, 1) := by decide +kernel
theorem d_C_mitre_12 : decode b_C_mitre 12 = .ok (.aload 4, 2) := by decide +kernel
theorem d_C_mitre_14 : decode b_C_mitre 14 = .ok (.getfield 185, 3) := by decide +kernel
theorem d_C_mitre_17 : decode b_C_mitre 17 = .ok (.if_icmp .lt 13, 3) := by decide +kernel
theorem d_C_mitre_20 : decode b_C_mitre 20 = .ok (.new 105, 3) := by decide +kernel
theorem d_C_mitre_23 : decode b_C_mitre 23 = .ok (.dup, 1) := by decide +kernel
theorem d_C_mitre_24 : decode b_C_mitre 24 = .ok (.ldc 193, 2) := by decide +kernel
theorem d_C_mitre_26 : decode b_C_mitre 26 = .ok (.invokespecial 109, 3) := by decide +kernel
theorem d_C_mitre_29 : decode b_C_mitre 29 = .ok (.athrow, 1) := by decide +kernel
theorem d_C_mitre_30 : decode b_C_mitre 30 = .ok (.iload_n 3, 1) := by decide +kernel
theorem d_C_mitre_31 : decode b_C_mitre 31 = .ok (.invokestatic 195, 3) := by decide +kernel
theorem d_C_mitre_34 : decode b_C_mitre 34 = .ok (.aload 4, 2) := by decide +kernel
theorem d_C_mitre_36 : decode b_C_mitre 36 = .ok (.getfield 198, 3) := by decide +kernel
theorem d_C_mitre_39 : decode b_C_mitre 39 = .ok (.iload_n 2, 1) := by decide +kernel
theorem d_C_mitre_40 : decode b_C_mitre 40 = .ok (.iaload, 1) := by decide +kernel
theorem d_C_mitre_41 : decode b_C_mitre 41 = .ok (.i2l, 1) := by decide +kernel
theorem d_C_mitre_42 : decode b_C_mitre 42 = .ok (.ldc2_w 201, 3) := by decide +kernel
theorem d_C_mitre_45 : decode b_C_mitre 45 = .ok (.aload 4, 2) := by decide +kernel
theorem d_C_mitre_47 : decode b_C_mitre 47 = .ok (.getfield 203, 3) := by decide +kernel
theorem d_C_mitre_50 : decode b_C_mitre 50 = .ok (.iload_n 2, 1) := by decide +kernel
theorem d_C_mitre_51 : decode b_C_mitre 51 = .ok (.iaload, 1) := by decide +kernel
theorem d_C_mitre_52 : decode b_C_mitre 52 = .ok (.i2l, 1) := by decide +kernel
theorem d_C_mitre_53 : decode b_C_mitre 53 = .ok (.lmul, 1) := by decide +kernel
theorem d_C_mitre_54 : decode b_C_mitre 54 = .ok (.iload_n 3, 1) := by decide +kernel
theorem d_C_mitre_55 : decode b_C_mitre 55 = .ok (.invokestatic 206, 3) := by decide +kernel
theorem d_C_mitre_58 : decode b_C_mitre 58 = .ok (.lreturn, 1) := by decide +kernel
theorem d_C_noseAt_0 : decode b_C_noseAt 0 = .ok (.iload_n 1, 1) := by decide +kernel
theorem d_C_noseAt_1 : decode b_C_noseAt 1 = .ok (.ifCond .lt 18, 3) := by decide +kernel
theorem d_C_noseAt_4 : decode b_C_noseAt 4 = .ok (.iload_n 1, 1) := by decide +kernel
theorem d_C_noseAt_5 : decode b_C_noseAt 5 = .ok (.bipush 6, 2) := by decide +kernel
theorem d_C_noseAt_7 : decode b_C_noseAt 7 = .ok (.if_icmp .ge 12, 3) := by decide +kernel
theorem d_C_noseAt_10 : decode b_C_noseAt 10 = .ok (.aload_n 0, 1) := by decide +kernel
theorem d_C_noseAt_11 : decode b_C_noseAt 11 = .ok (.getfield 24, 3) := by decide +kernel
theorem d_C_noseAt_14 : decode b_C_noseAt 14 = .ok (.iload_n 1, 1) := by decide +kernel
theorem d_C_noseAt_15 : decode b_C_noseAt 15 = .ok (.aaload, 1) := by decide +kernel
theorem d_C_noseAt_16 : decode b_C_noseAt 16 = .ok (.goto 4, 3) := by decide +kernel
theorem d_C_noseAt_19 : decode b_C_noseAt 19 = .ok (.aconst_null, 1) := by decide +kernel
theorem d_C_noseAt_20 : decode b_C_noseAt 20 = .ok (.astore_n 2, 1) := by decide +kernel
theorem d_C_noseAt_21 : decode b_C_noseAt 21 = .ok (.aload_n 2, 1) := by decide +kernel
theorem d_C_noseAt_22 : decode b_C_noseAt 22 = .ok (.ifnonnull 13, 3) := by decide +kernel
theorem d_C_noseAt_25 : decode b_C_noseAt 25 = .ok (.new 105, 3) := by decide +kernel
theorem d_C_noseAt_28 : decode b_C_noseAt 28 = .ok (.dup, 1) := by decide +kernel
theorem d_C_noseAt_29 : decode b_C_noseAt 29 = .ok (.ldc 241, 2) := by decide +kernel
theorem d_C_noseAt_31 : decode b_C_noseAt 31 = .ok (.invokespecial 109, 3) := by decide +kernel
theorem d_C_noseAt_34 : decode b_C_noseAt 34 = .ok (.athrow, 1) := by decide +kernel
theorem d_C_noseAt_35 : decode b_C_noseAt 35 = .ok (.aload_n 2, 1) := by decide +kernel
theorem d_C_noseAt_36 : decode b_C_noseAt 36 = .ok (.areturn, 1) := by decide +kernel
theorem d_C_passes_0 : decode b_C_passes 0 = .ok (.aload_n 0, 1) := by decide +kernel
theorem d_C_passes_1 : decode b_C_passes 1 = .ok (.iload_n 1, 1) := by decide +kernel
theorem d_C_passes_2 : decode b_C_passes 2 = .ok (.iload_n 2, 1) := by decide +kernel
theorem d_C_passes_3 : decode b_C_passes 3 = .ok (.invokevirtual 117, 3) := by decide +kernel
theorem d_C_passes_6 : decode b_C_passes 6 = .ok (.astore 5, 2) := by decide +kernel
theorem d_C_passes_8 : decode b_C_passes 8 = .ok (.iload_n 3, 1) := by decide +kernel
theorem d_C_passes_9 : decode b_C_passes 9 = .ok (.iload 4, 2) := by decide +kernel
theorem d_C_passes_11 : decode b_C_passes 11 = .ok (.invokestatic 133, 3) := by decide +kernel
theorem d_C_passes_14 : decode b_C_passes 14 = .ok (.aload 5, 2) := by decide +kernel
theorem d_C_passes_16 : decode b_C_passes 16 = .ok (.aload_n 0, 1) := by decide +kernel
theorem d_C_passes_17 : decode b_C_passes 17 = .ok (.iload_n 1, 1) := by decide +kernel
theorem d_C_passes_18 : decode b_C_passes 18 = .ok (.invokevirtual 94, 3) := by decide +kernel
theorem d_C_passes_21 : decode b_C_passes 21 = .ok (.getfield 101, 3) := by decide +kernel
theorem d_C_passes_24 : decode b_C_passes 24 = .ok (.iload_n 3, 1) := by decide +kernel
theorem d_C_passes_25 : decode b_C_passes 25 = .ok (.iload 4, 2) := by decide +kernel
theorem d_C_passes_27 : decode b_C_passes 27 = .ok (.invokevirtual 136, 3) := by decide +kernel
theorem d_C_passes_30 : decode b_C_passes 30 = .ok (.ireturn, 1) := by decide +kernel
theorem d_C_pieceAt_0 : decode b_C_pieceAt 0 = .ok (.iload_n 1, 1) := by decide +kernel
theorem d_C_pieceAt_1 : decode b_C_pieceAt 1 = .ok (.ifCond .lt 18, 3) := by decide +kernel
theorem d_C_pieceAt_4 : decode b_C_pieceAt 4 = .ok (.iload_n 1, 1) := by decide +kernel
theorem d_C_pieceAt_5 : decode b_C_pieceAt 5 = .ok (.bipush 6, 2) := by decide +kernel
theorem d_C_pieceAt_7 : decode b_C_pieceAt 7 = .ok (.if_icmp .ge 12, 3) := by decide +kernel
theorem d_C_pieceAt_10 : decode b_C_pieceAt 10 = .ok (.aload_n 0, 1) := by decide +kernel
theorem d_C_pieceAt_11 : decode b_C_pieceAt 11 = .ok (.getfield 18, 3) := by decide +kernel
theorem d_C_pieceAt_14 : decode b_C_pieceAt 14 = .ok (.iload_n 1, 1) := by decide +kernel
theorem d_C_pieceAt_15 : decode b_C_pieceAt 15 = .ok (.aaload, 1) := by decide +kernel
theorem d_C_pieceAt_16 : decode b_C_pieceAt 16 = .ok (.goto 4, 3) := by decide +kernel
theorem d_C_pieceAt_19 : decode b_C_pieceAt 19 = .ok (.aconst_null, 1) := by decide +kernel
theorem d_C_pieceAt_20 : decode b_C_pieceAt 20 = .ok (.astore_n 2, 1) := by decide +kernel
theorem d_C_pieceAt_21 : decode b_C_pieceAt 21 = .ok (.aload_n 2, 1) := by decide +kernel
theorem d_C_pieceAt_22 : decode b_C_pieceAt 22 = .ok (.ifnonnull 13, 3) := by decide +kernel
theorem d_C_pieceAt_25 : decode b_C_pieceAt 25 = .ok (.new 105, 3) := by decide +kernel
theorem d_C_pieceAt_28 : decode b_C_pieceAt 28 = .ok (.dup, 1) := by decide +kernel
theorem d_C_pieceAt_29 : decode b_C_pieceAt 29 = .ok (.ldc 239, 2) := by decide +kernel
theorem d_C_pieceAt_31 : decode b_C_pieceAt 31 = .ok (.invokespecial 109, 3) := by decide +kernel
theorem d_C_pieceAt_34 : decode b_C_pieceAt 34 = .ok (.athrow, 1) := by decide +kernel
theorem d_C_pieceAt_35 : decode b_C_pieceAt 35 = .ok (.aload_n 2, 1) := by decide +kernel
theorem d_C_pieceAt_36 : decode b_C_pieceAt 36 = .ok (.areturn, 1) := by decide +kernel
theorem d_C_radius_0 : decode b_C_radius 0 = .ok (.aload_n 0, 1) := by decide +kernel
theorem d_C_radius_1 : decode b_C_radius 1 = .ok (.iload_n 1, 1) := by decide +kernel
theorem d_C_radius_2 : decode b_C_radius 2 = .ok (.iload_n 2, 1) := by decide +kernel
theorem d_C_radius_3 : decode b_C_radius 3 = .ok (.invokevirtual 90, 3) := by decide +kernel
theorem d_C_radius_6 : decode b_C_radius 6 = .ok (.ireturn, 1) := by decide +kernel
theorem d_C_radiusAt_0 : decode b_C_radiusAt 0 = .ok (.aload_n 0, 1) := by decide +kernel
theorem d_C_radiusAt_1 : decode b_C_radiusAt 1 = .ok (.iload_n 1, 1) := by decide +kernel
theorem d_C_radiusAt_2 : decode b_C_radiusAt 2 = .ok (.invokevirtual 94, 3) := by decide +kernel
theorem d_C_radiusAt_5 : decode b_C_radiusAt 5 = .ok (.astore_n 3, 1) := by decide +kernel
theorem d_C_radiusAt_6 : decode b_C_radiusAt 6 = .ok (.iload_n 2, 1) := by decide +kernel
theorem d_C_radiusAt_7 : decode b_C_radiusAt 7 = .ok (.ifCond .lt 11, 3) := by decide +kernel
theorem d_C_radiusAt_10 : decode b_C_radiusAt 10 = .ok (.iload_n 2, 1) := by decide +kernel
theorem d_C_radiusAt_11 : decode b_C_radiusAt 11 = .ok (.aload_n 3, 1) := by decide +kernel
theorem d_C_radiusAt_12 : decode b_C_radiusAt 12 = .ok (.getfield 98, 3) := by decide +kernel
theorem d_C_radiusAt_15 : decode b_C_radiusAt 15 = .ok (.if_icmp .le 13, 3) := by decide +kernel
theorem d_C_radiusAt_18 : decode b_C_radiusAt 18 = .ok (.new 105, 3) := by decide +kernel
theorem d_C_radiusAt_21 : decode b_C_radiusAt 21 = .ok (.dup, 1) := by decide +kernel
theorem d_C_radiusAt_22 : decode b_C_radiusAt 22 = .ok (.ldc 124, 2) := by decide +kernel
theorem d_C_radiusAt_24 : decode b_C_radiusAt 24 = .ok (.invokespecial 109, 3) := by decide +kernel
theorem d_C_radiusAt_27 : decode b_C_radiusAt 27 = .ok (.athrow, 1) := by decide +kernel
theorem d_C_radiusAt_28 : decode b_C_radiusAt 28 = .ok (.aload_n 3, 1) := by decide +kernel
theorem d_C_radiusAt_29 : decode b_C_radiusAt 29 = .ok (.getfield 126, 3) := by decide +kernel
theorem d_C_radiusAt_32 : decode b_C_radiusAt 32 = .ok (.iload_n 2, 1) := by decide +kernel
theorem d_C_radiusAt_33 : decode b_C_radiusAt 33 = .ok (.iaload, 1) := by decide +kernel
theorem d_C_radiusAt_34 : decode b_C_radiusAt 34 = .ok (.ireturn, 1) := by decide +kernel
theorem d_C_reachOf_0 : decode b_C_reachOf 0 = .ok (.aload_n 0, 1) := by decide +kernel
theorem d_C_reachOf_1 : decode b_C_reachOf 1 = .ok (.iload_n 1, 1) := by decide +kernel
theorem d_C_reachOf_2 : decode b_C_reachOf 2 = .ok (.invokevirtual 94, 3) := by decide +kernel
theorem d_C_reachOf_5 : decode b_C_reachOf 5 = .ok (.astore_n 3, 1) := by decide +kernel
theorem d_C_reachOf_6 : decode b_C_reachOf 6 = .ok (.aload_n 0, 1) := by decide +kernel
theorem d_C_reachOf_7 : decode b_C_reachOf 7 = .ok (.iload_n 2, 1) := by decide +kernel
theorem d_C_reachOf_8 : decode b_C_reachOf 8 = .ok (.invokevirtual 245, 3) := by decide +kernel
theorem d_C_reachOf_11 : decode b_C_reachOf 11 = .ok (.astore 4, 2) := by decide +kernel
theorem d_C_reachOf_13 : decode b_C_reachOf 13 = .ok (.iload_n 1, 1) := by decide +kernel
theorem d_C_reachOf_14 : decode b_C_reachOf 14 = .ok (.bipush 6, 2) := by decide +kernel
theorem d_C_reachOf_16 : decode b_C_reachOf 16 = .ok (.imul, 1) := by decide +kernel
theorem d_C_reachOf_17 : decode b_C_reachOf 17 = .ok (.iload_n 2, 1) := by decide +kernel
theorem d_C_reachOf_18 : decode b_C_reachOf 18 = .ok (.iadd, 1) := by decide +kernel
theorem d_C_reachOf_19 : decode b_C_reachOf 19 = .ok (.istore 5, 2) := by decide +kernel
theorem d_C_reachOf_21 : decode b_C_reachOf 21 = .ok (.aload_n 0, 1) := by decide +kernel
theorem d_C_reachOf_22 : decode b_C_reachOf 22 = .ok (.getfield 30, 3) := by decide +kernel
theorem d_C_reachOf_25 : decode b_C_reachOf 25 = .ok (.iload 5, 2) := by decide +kernel
theorem d_C_reachOf_27 : decode b_C_reachOf 27 = .ok (.aaload, 1) := by decide +kernel
theorem d_C_reachOf_28 : decode b_C_reachOf 28 = .ok (.astore 6, 2) := by decide +kernel
theorem d_C_reachOf_30 : decode b_C_reachOf 30 = .ok (.aload 6, 2) := by decide +kernel
theorem d_C_reachOf_32 : decode b_C_reachOf 32 = .ok (.ifnonnull 30, 3) := by decide +kernel
theorem d_C_reachOf_35 : decode b_C_reachOf 35 = .ok (.new 28, 3) := by decide +kernel
theorem d_C_reachOf_38 : decode b_C_reachOf 38 = .ok (.dup, 1) := by decide +kernel
theorem d_C_reachOf_39 : decode b_C_reachOf 39 = .ok (.aload_n 3, 1) := by decide +kernel
theorem d_C_reachOf_40 : decode b_C_reachOf 40 = .ok (.getfield 126, 3) := by decide +kernel
theorem d_C_reachOf_43 : decode b_C_reachOf 43 = .ok (.aload 4, 2) := by decide +kernel
theorem d_C_reachOf_45 : decode b_C_reachOf 45 = .ok (.getfield 249, 3) := by decide +kernel
theorem d_C_reachOf_48 : decode b_C_reachOf 48 = .ok (.invokespecial 252, 3) := by decide +kernel
theorem d_C_reachOf_51 : decode b_C_reachOf 51 = .ok (.astore 6, 2) := by decide +kernel
theorem d_C_reachOf_53 : decode b_C_reachOf 53 = .ok (.aload_n 0, 1) := by decide +kernel
theorem d_C_reachOf_54 : decode b_C_reachOf 54 = .ok (.getfield 30, 3) := by decide +kernel
theorem d_C_reachOf_57 : decode b_C_reachOf 57 = .ok (.iload 5, 2) := by decide +kernel
theorem d_C_reachOf_59 : decode b_C_reachOf 59 = .ok (.aload 6, 2) := by decide +kernel
theorem d_C_reachOf_61 : decode b_C_reachOf 61 = .ok (.aastore, 1) := by decide +kernel
theorem d_C_reachOf_62 : decode b_C_reachOf 62 = .ok (.aload 6, 2) := by decide +kernel
theorem d_C_reachOf_64 : decode b_C_reachOf 64 = .ok (.areturn, 1) := by decide +kernel
theorem d_C_reached_0 : decode b_C_reached 0 = .ok (.aload_n 0, 1) := by decide +kernel
theorem d_C_reached_1 : decode b_C_reached 1 = .ok (.iload_n 1, 1) := by decide +kernel
theorem d_C_reached_2 : decode b_C_reached 2 = .ok (.iload_n 2, 1) := by decide +kernel
theorem d_C_reached_3 : decode b_C_reached 3 = .ok (.invokevirtual 117, 3) := by decide +kernel
theorem d_C_reached_6 : decode b_C_reached 6 = .ok (.astore 4, 2) := by decide +kernel
theorem d_C_reached_8 : decode b_C_reached 8 = .ok (.iload_n 3, 1) := by decide +kernel
theorem d_C_reached_9 : decode b_C_reached 9 = .ok (.ifCond .lt 13, 3) := by decide +kernel
theorem d_C_reached_12 : decode b_C_reached 12 = .ok (.iload_n 3, 1) := by decide +kernel
theorem d_C_reached_13 : decode b_C_reached 13 = .ok (.aload 4, 2) := by decide +kernel
theorem d_C_reached_15 : decode b_C_reached 15 = .ok (.getfield 121, 3) := by decide +kernel
theorem d_C_reached_18 : decode b_C_reached 18 = .ok (.arraylength, 1) := by decide +kernel
theorem d_C_reached_19 : decode b_C_reached 19 = .ok (.if_icmp .lt 13, 3) := by decide +kernel
theorem d_C_reached_22 : decode b_C_reached 22 = .ok (.new 105, 3) := by decide +kernel
theorem d_C_reached_25 : decode b_C_reached 25 = .ok (.dup, 1) := by decide +kernel
theorem d_C_reached_26 : decode b_C_reached 26 = .ok (.ldc 124, 2) := by decide +kernel
theorem d_C_reached_28 : decode b_C_reached 28 = .ok (.invokespecial 109, 3) := by decide +kernel
theorem d_C_reached_31 : decode b_C_reached 31 = .ok (.athrow, 1) := by decide +kernel
theorem d_C_reached_32 : decode b_C_reached 32 = .ok (.aload 4, 2) := by decide +kernel
theorem d_C_reached_34 : decode b_C_reached 34 = .ok (.getfield 121, 3) := by decide +kernel
theorem d_C_reached_37 : decode b_C_reached 37 = .ok (.iload_n 3, 1) := by decide +kernel
theorem d_C_reached_38 : decode b_C_reached 38 = .ok (.iaload, 1) := by decide +kernel
theorem d_C_reached_39 : decode b_C_reached 39 = .ok (.ireturn, 1) := by decide +kernel
theorem d_C_ring_0 : decode b_C_ring 0 = .ok (.aload_n 0, 1) := by decide +kernel
theorem d_C_ring_1 : decode b_C_ring 1 = .ok (.getfield 175, 3) := by decide +kernel
theorem d_C_ring_4 : decode b_C_ring 4 = .ok (.bipush 6, 2) := by decide +kernel
theorem d_C_ring_6 : decode b_C_ring 6 = .ok (.if_icmp .lt 13, 3) := by decide +kernel
theorem d_C_ring_9 : decode b_C_ring 9 = .ok (.new 80, 3) := by decide +kernel
theorem d_C_ring_12 : decode b_C_ring 12 = .ok (.dup, 1) := by decide +kernel
theorem d_C_ring_13 : decode b_C_ring 13 = .ok (.ldc 178, 2) := by decide +kernel
theorem d_C_ring_15 : decode b_C_ring 15 = .ok (.invokespecial 84, 3) := by decide +kernel
theorem d_C_ring_18 : decode b_C_ring 18 = .ok (.athrow, 1) := by decide +kernel
theorem d_C_ring_19 : decode b_C_ring 19 = .ok (.aload_n 0, 1) := by decide +kernel
theorem d_C_ring_20 : decode b_C_ring 20 = .ok (.getfield 36, 3) := by decide +kernel
theorem d_C_ring_23 : decode b_C_ring 23 = .ok (.aload_n 0, 1) := by decide +kernel
theorem d_C_ring_24 : decode b_C_ring 24 = .ok (.getfield 175, 3) := by decide +kernel
theorem d_C_ring_27 : decode b_C_ring 27 = .ok (.new 34, 3) := by decide +kernel
theorem d_C_ring_30 : decode b_C_ring 30 = .ok (.dup, 1) := by decide +kernel
theorem d_C_ring_31 : decode b_C_ring 31 = .ok (.invokespecial 180, 3) := by decide +kernel
theorem d_C_ring_34 : decode b_C_ring 34 = .ok (.aastore, 1) := by decide +kernel
theorem d_C_ring_35 : decode b_C_ring 35 = .ok (.aload_n 0, 1) := by decide +kernel
theorem d_C_ring_36 : decode b_C_ring 36 = .ok (.dup, 1) := by decide +kernel
theorem d_C_ring_37 : decode b_C_ring 37 = .ok (.getfield 175, 3) := by decide +kernel
theorem d_C_ring_40 : decode b_C_ring 40 = .ok (.iconst 1, 1) := by decide +kernel
theorem d_C_ring_41 : decode b_C_ring 41 = .ok (.iadd, 1) := by decide +kernel
theorem d_C_ring_42 : decode b_C_ring 42 = .ok (.putfield 175, 3) := by decide +kernel
theorem d_C_ring_45 : decode b_C_ring 45 = .ok (.aload_n 0, 1) := by decide +kernel
theorem d_C_ring_46 : decode b_C_ring 46 = .ok (.getfield 175, 3) := by decide +kernel
theorem d_C_ring_49 : decode b_C_ring 49 = .ok (.iconst 1, 1) := by decide +kernel
theorem d_C_ring_50 : decode b_C_ring 50 = .ok (.isub, 1) := by decide +kernel
theorem d_C_ring_51 : decode b_C_ring 51 = .ok (.ireturn, 1) := by decide +kernel
theorem d_C_ringAt_0 : decode b_C_ringAt 0 = .ok (.iload_n 1, 1) := by decide +kernel
theorem d_C_ringAt_1 : decode b_C_ringAt 1 = .ok (.ifCond .lt 18, 3) := by decide +kernel
theorem d_C_ringAt_4 : decode b_C_ringAt 4 = .ok (.iload_n 1, 1) := by decide +kernel
theorem d_C_ringAt_5 : decode b_C_ringAt 5 = .ok (.bipush 6, 2) := by decide +kernel
theorem d_C_ringAt_7 : decode b_C_ringAt 7 = .ok (.if_icmp .ge 12, 3) := by decide +kernel
theorem d_C_ringAt_10 : decode b_C_ringAt 10 = .ok (.aload_n 0, 1) := by decide +kernel
theorem d_C_ringAt_11 : decode b_C_ringAt 11 = .ok (.getfield 36, 3) := by decide +kernel
theorem d_C_ringAt_14 : decode b_C_ringAt 14 = .ok (.iload_n 1, 1) := by decide +kernel
theorem d_C_ringAt_15 : decode b_C_ringAt 15 = .ok (.aaload, 1) := by decide +kernel
theorem d_C_ringAt_16 : decode b_C_ringAt 16 = .ok (.goto 4, 3) := by decide +kernel
theorem d_C_ringAt_19 : decode b_C_ringAt 19 = .ok (.aconst_null, 1) := by decide +kernel
theorem d_C_ringAt_20 : decode b_C_ringAt 20 = .ok (.astore_n 2, 1) := by decide +kernel
theorem d_C_ringAt_21 : decode b_C_ringAt 21 = .ok (.aload_n 2, 1) := by decide +kernel
theorem d_C_ringAt_22 : decode b_C_ringAt 22 = .ok (.ifnonnull 13, 3) := by decide +kernel
theorem d_C_ringAt_25 : decode b_C_ringAt 25 = .ok (.new 105, 3) := by decide +kernel
theorem d_C_ringAt_28 : decode b_C_ringAt 28 = .ok (.dup, 1) := by decide +kernel
theorem d_C_ringAt_29 : decode b_C_ringAt 29 = .ok (.ldc 243, 2) := by decide +kernel
theorem d_C_ringAt_31 : decode b_C_ringAt 31 = .ok (.invokespecial 109, 3) := by decide +kernel
theorem d_C_ringAt_34 : decode b_C_ringAt 34 = .ok (.athrow, 1) := by decide +kernel
theorem d_C_ringAt_35 : decode b_C_ringAt 35 = .ok (.aload_n 2, 1) := by decide +kernel
theorem d_C_ringAt_36 : decode b_C_ringAt 36 = .ok (.areturn, 1) := by decide +kernel
theorem d_C_row_0 : decode b_C_row 0 = .ok (.iload_n 1, 1) := by decide +kernel
theorem d_C_row_1 : decode b_C_row 1 = .ok (.iconst 1, 1) := by decide +kernel
theorem d_C_row_2 : decode b_C_row 2 = .ok (.sipush 500, 3) := by decide +kernel
theorem d_C_row_5 : decode b_C_row 5 = .ok (.invokestatic 47, 3) := by decide +kernel
theorem d_C_row_8 : decode b_C_row 8 = .ok (.iload_n 2, 1) := by decide +kernel
theorem d_C_row_9 : decode b_C_row 9 = .ok (.iconst 1, 1) := by decide +kernel
theorem d_C_row_10 : decode b_C_row 10 = .ok (.sipush 10000, 3) := by decide +kernel
theorem d_C_row_13 : decode b_C_row 13 = .ok (.invokestatic 47, 3) := by decide +kernel
theorem d_C_row_16 : decode b_C_row 16 = .ok (.aload_n 0, 1) := by decide +kernel
theorem d_C_row_17 : decode b_C_row 17 = .ok (.getfield 227, 3) := by decide +kernel
theorem d_C_row_20 : decode b_C_row 20 = .ok (.ifCond .le 28, 3) := by decide +kernel
theorem d_C_row_23 : decode b_C_row 23 = .ok (.iload_n 1, 1) := by decide +kernel
theorem d_C_row_24 : decode b_C_row 24 = .ok (.aload_n 0, 1) := by decide +kernel
theorem d_C_row_25 : decode b_C_row 25 = .ok (.getfield 40, 3) := by decide +kernel
theorem d_C_row_28 : decode b_C_row 28 = .ok (.aload_n 0, 1) := by decide +kernel
theorem d_C_row_29 : decode b_C_row 29 = .ok (.getfield 227, 3) := by decide +kernel
theorem d_C_row_32 : decode b_C_row 32 = .ok (.iconst 1, 1) := by decide +kernel
theorem d_C_row_33 : decode b_C_row 33 = .ok (.isub, 1) := by decide +kernel
theorem d_C_row_34 : decode b_C_row 34 = .ok (.iaload, 1) := by decide +kernel
theorem d_C_row_35 : decode b_C_row 35 = .ok (.if_icmp .gt 13, 3) := by decide +kernel
theorem d_C_row_38 : decode b_C_row 38 = .ok (.new 230, 3) := by decide +kernel
theorem d_C_row_41 : decode b_C_row 41 = .ok (.dup, 1) := by decide +kernel
theorem d_C_row_42 : decode b_C_row 42 = .ok (.ldc 232, 2) := by decide +kernel
theorem d_C_row_44 : decode b_C_row 44 = .ok (.invokespecial 234, 3) := by decide +kernel
theorem d_C_row_47 : decode b_C_row 47 = .ok (.athrow, 1) := by decide +kernel
theorem d_C_row_48 : decode b_C_row 48 = .ok (.aload_n 0, 1) := by decide +kernel
theorem d_C_row_49 : decode b_C_row 49 = .ok (.getfield 227, 3) := by decide +kernel
theorem d_C_row_52 : decode b_C_row 52 = .ok (.bipush 8, 2) := by decide +kernel
theorem d_C_row_54 : decode b_C_row 54 = .ok (.if_icmp .lt 13, 3) := by decide +kernel
theorem d_C_row_57 : decode b_C_row 57 = .ok (.new 80, 3) := by decide +kernel
theorem d_C_row_60 : decode b_C_row 60 = .ok (.dup, 1) := by decide +kernel
theorem d_C_row_61 : decode b_C_row 61 = .ok (.ldc 235, 2) := by decide +kernel
theorem d_C_row_63 : decode b_C_row 63 = .ok (.invokespecial 84, 3) := by decide +kernel
theorem d_C_row_66 : decode b_C_row 66 = .ok (.athrow, 1) := by decide +kernel
theorem d_C_row_67 : decode b_C_row 67 = .ok (.aload_n 0, 1) := by decide +kernel
theorem d_C_row_68 : decode b_C_row 68 = .ok (.getfield 40, 3) := by decide +kernel
theorem d_C_row_71 : decode b_C_row 71 = .ok (.aload_n 0, 1) := by decide +kernel
theorem d_C_row_72 : decode b_C_row 72 = .ok (.getfield 227, 3) := by decide +kernel
theorem d_C_row_75 : decode b_C_row 75 = .ok (.iload_n 1, 1) := by decide +kernel
theorem d_C_row_76 : decode b_C_row 76 = .ok (.iastore, 1) := by decide +kernel
theorem d_C_row_77 : decode b_C_row 77 = .ok (.aload_n 0, 1) := by decide +kernel
theorem d_C_row_78 : decode b_C_row 78 = .ok (.getfield 44, 3) := by decide +kernel
theorem d_C_row_81 : decode b_C_row 81 = .ok (.aload_n 0, 1) := by decide +kernel
theorem d_C_row_82 : decode b_C_row 82 = .ok (.getfield 227, 3) := by decide +kernel
theorem d_C_row_85 : decode b_C_row 85 = .ok (.iload_n 2, 1) := by decide +kernel
theorem d_C_row_86 : decode b_C_row 86 = .ok (.iastore, 1) := by decide +kernel
theorem d_C_row_87 : decode b_C_row 87 = .ok (.aload_n 0, 1) := by decide +kernel
theorem d_C_row_88 : decode b_C_row 88 = .ok (.dup, 1) := by decide +kernel
theorem d_C_row_89 : decode b_C_row 89 = .ok (.getfield 227, 3) := by decide +kernel
theorem d_C_row_92 : decode b_C_row 92 = .ok (.iconst 1, 1) := by decide +kernel
theorem d_C_row_93 : decode b_C_row 93 = .ok (.iadd, 1) := by decide +kernel
theorem d_C_row_94 : decode b_C_row 94 = .ok (.putfield 227, 3) := by decide +kernel
theorem d_C_row_97 : decode b_C_row 97 = .ok (.aload_n 0, 1) := by decide +kernel
theorem d_C_row_98 : decode b_C_row 98 = .ok (.getfield 227, 3) := by decide +kernel
theorem d_C_row_101 : decode b_C_row 101 = .ok (.ireturn, 1) := by decide +kernel
theorem d_C_speed_0 : decode b_C_speed 0 = .ok (.aload_n 0, 1) := by decide +kernel
theorem d_C_speed_1 : decode b_C_speed 1 = .ok (.iload_n 1, 1) := by decide +kernel
theorem d_C_speed_2 : decode b_C_speed 2 = .ok (.iload_n 2, 1) := by decide +kernel
theorem d_C_speed_3 : decode b_C_speed 3 = .ok (.invokevirtual 90, 3) := by decide +kernel
theorem d_C_speed_6 : decode b_C_speed 6 = .ok (.istore_n 3, 1) := by decide +kernel
theorem d_C_speed_7 : decode b_C_speed 7 = .ok (.aload_n 0, 1) := by decide +kernel
theorem d_C_speed_8 : decode b_C_speed 8 = .ok (.getfield 227, 3) := by decide +kernel
theorem d_C_speed_11 : decode b_C_speed 11 = .ok (.ifCond .ne 13, 3) := by decide +kernel
theorem d_C_speed_14 : decode b_C_speed 14 = .ok (.new 80, 3) := by decide +kernel
theorem d_C_speed_17 : decode b_C_speed 17 = .ok (.dup, 1) := by decide +kernel
theorem d_C_speed_18 : decode b_C_speed 18 = .ok (.ldc 237, 2) := by decide +kernel
theorem d_C_speed_20 : decode b_C_speed 20 = .ok (.invokespecial 84, 3) := by decide +kernel
theorem d_C_speed_23 : decode b_C_speed 23 = .ok (.athrow, 1) := by decide +kernel
theorem d_C_speed_24 : decode b_C_speed 24 = .ok (.iconst 0, 1) := by decide +kernel
theorem d_C_speed_25 : decode b_C_speed 25 = .ok (.istore 4, 2) := by decide +kernel
theorem d_C_speed_27 : decode b_C_speed 27 = .ok (.iload 4, 2) := by decide +kernel
theorem d_C_speed_29 : decode b_C_speed 29 = .ok (.aload_n 0, 1) := by decide +kernel
theorem d_C_speed_30 : decode b_C_speed 30 = .ok (.getfield 227, 3) := by decide +kernel
theorem d_C_speed_33 : decode b_C_speed 33 = .ok (.if_icmp .ge 28, 3) := by decide +kernel
theorem d_C_speed_36 : decode b_C_speed 36 = .ok (.aload_n 0, 1) := by decide +kernel
theorem d_C_speed_37 : decode b_C_speed 37 = .ok (.getfield 40, 3) := by decide +kernel
theorem d_C_speed_40 : decode b_C_speed 40 = .ok (.iload 4, 2) := by decide +kernel
theorem d_C_speed_42 : decode b_C_speed 42 = .ok (.iaload, 1) := by decide +kernel
theorem d_C_speed_43 : decode b_C_speed 43 = .ok (.iload_n 3, 1) := by decide +kernel
theorem d_C_speed_44 : decode b_C_speed 44 = .ok (.if_icmp .lt 11, 3) := by decide +kernel
theorem d_C_speed_47 : decode b_C_speed 47 = .ok (.aload_n 0, 1) := by decide +kernel
theorem d_C_speed_48 : decode b_C_speed 48 = .ok (.getfield 44, 3) := by decide +kernel
theorem d_C_speed_51 : decode b_C_speed 51 = .ok (.iload 4, 2) := by decide +kernel
theorem d_C_speed_53 : decode b_C_speed 53 = .ok (.iaload, 1) := by decide +kernel
theorem d_C_speed_54 : decode b_C_speed 54 = .ok (.ireturn, 1) := by decide +kernel
theorem d_C_speed_55 : decode b_C_speed 55 = .ok (.iinc 4 1, 3) := by decide +kernel
theorem d_C_speed_58 : decode b_C_speed 58 = .ok (.goto (-31), 3) := by decide +kernel
theorem d_C_speed_61 : decode b_C_speed 61 = .ok (.aload_n 0, 1) := by decide +kernel
theorem d_C_speed_62 : decode b_C_speed 62 = .ok (.getfield 44, 3) := by decide +kernel
theorem d_C_speed_65 : decode b_C_speed 65 = .ok (.aload_n 0, 1) := by decide +kernel
theorem d_C_speed_66 : decode b_C_speed 66 = .ok (.getfield 227, 3) := by decide +kernel
theorem d_C_speed_69 : decode b_C_speed 69 = .ok (.iconst 1, 1) := by decide +kernel
theorem d_C_speed_70 : decode b_C_speed 70 = .ok (.isub, 1) := by decide +kernel
theorem d_C_speed_71 : decode b_C_speed 71 = .ok (.iaload, 1) := by decide +kernel
theorem d_C_speed_72 : decode b_C_speed 72 = .ok (.ireturn, 1) := by decide +kernel
theorem d_C_start_0 : decode b_C_start 0 = .ok (.iload_n 1, 1) := by decide +kernel
theorem d_C_start_1 : decode b_C_start 1 = .ok (.iconst 0, 1) := by decide +kernel
theorem d_C_start_2 : decode b_C_start 2 = .ok (.sipush 500, 3) := by decide +kernel
theorem d_C_start_5 : decode b_C_start 5 = .ok (.invokestatic 47, 3) := by decide +kernel
theorem d_C_start_8 : decode b_C_start 8 = .ok (.aload_n 0, 1) := by decide +kernel
theorem d_C_start_9 : decode b_C_start 9 = .ok (.getfield 10, 3) := by decide +kernel
theorem d_C_start_12 : decode b_C_start 12 = .ok (.iload_n 1, 1) := by decide +kernel
theorem d_C_start_13 : decode b_C_start 13 = .ok (.invokevirtual 51, 3) := by decide +kernel
theorem d_C_start_16 : decode b_C_start 16 = .ok (.return_, 1) := by decide +kernel
theorem d_C_steady_0 : decode b_C_steady 0 = .ok (.aload_n 0, 1) := by decide +kernel
theorem d_C_steady_1 : decode b_C_steady 1 = .ok (.iload_n 1, 1) := by decide +kernel
theorem d_C_steady_2 : decode b_C_steady 2 = .ok (.invokevirtual 94, 3) := by decide +kernel
theorem d_C_steady_5 : decode b_C_steady 5 = .ok (.astore 4, 2) := by decide +kernel
theorem d_C_steady_7 : decode b_C_steady 7 = .ok (.iload_n 2, 1) := by decide +kernel
theorem d_C_steady_8 : decode b_C_steady 8 = .ok (.iconst 1, 1) := by decide +kernel
theorem d_C_steady_9 : decode b_C_steady 9 = .ok (.sipush 500, 3) := by decide +kernel
theorem d_C_steady_12 : decode b_C_steady 12 = .ok (.invokestatic 47, 3) := by decide +kernel
theorem d_C_steady_15 : decode b_C_steady 15 = .ok (.iload_n 3, 1) := by decide +kernel
theorem d_C_steady_16 : decode b_C_steady 16 = .ok (.iconst 0, 1) := by decide +kernel
theorem d_C_steady_17 : decode b_C_steady 17 = .ok (.ldc 142, 2) := by decide +kernel
theorem d_C_steady_19 : decode b_C_steady 19 = .ok (.invokestatic 47, 3) := by decide +kernel
theorem d_C_steady_22 : decode b_C_steady 22 = .ok (.iload_n 3, 1) := by decide +kernel
theorem d_C_steady_23 : decode b_C_steady 23 = .ok (.aload 4, 2) := by decide +kernel
theorem d_C_steady_25 : decode b_C_steady 25 = .ok (.getfield 98, 3) := by decide +kernel
theorem d_C_steady_28 : decode b_C_steady 28 = .ok (.invokestatic 147, 3) := by decide +kernel
theorem d_C_steady_31 : decode b_C_steady 31 = .ok (.istore 5, 2) := by decide +kernel
theorem d_C_steady_33 : decode b_C_steady 33 = .ok (.iconst 0, 1) := by decide +kernel
theorem d_C_steady_34 : decode b_C_steady 34 = .ok (.istore 6, 2) := by decide +kernel
theorem d_C_steady_36 : decode b_C_steady 36 = .ok (.iconst 0, 1) := by decide +kernel
theorem d_C_steady_37 : decode b_C_steady 37 = .ok (.istore 7, 2) := by decide +kernel
theorem d_C_steady_39 : decode b_C_steady 39 = .ok (.iload 7, 2) := by decide +kernel
theorem d_C_steady_41 : decode b_C_steady 41 = .ok (.iload 5, 2) := by decide +kernel
theorem d_C_steady_43 : decode b_C_steady 43 = .ok (.if_icmp .gt 29, 3) := by decide +kernel
theorem d_C_steady_46 : decode b_C_steady 46 = .ok (.iload 6, 2) := by decide +kernel
theorem d_C_steady_48 : decode b_C_steady 48 = .ok (.aload 4, 2) := by decide +kernel
theorem d_C_steady_50 : decode b_C_steady 50 = .ok (.getfield 98, 3) := by decide +kernel
theorem d_C_steady_53 : decode b_C_steady 53 = .ok (.if_icmp .ge 19, 3) := by decide +kernel
theorem d_C_steady_56 : decode b_C_steady 56 = .ok (.aload 4, 2) := by decide +kernel
theorem d_C_steady_58 : decode b_C_steady 58 = .ok (.iload 6, 2) := by decide +kernel
theorem d_C_steady_60 : decode b_C_steady 60 = .ok (.iload_n 2, 1) := by decide +kernel
theorem d_C_steady_61 : decode b_C_steady 61 = .ok (.invokevirtual 152, 3) := by decide +kernel
theorem d_C_steady_64 : decode b_C_steady 64 = .ok (.istore 6, 2) := by decide +kernel
theorem d_C_steady_66 : decode b_C_steady 66 = .ok (.iinc 7 1, 3) := by decide +kernel
theorem d_C_steady_69 : decode b_C_steady 69 = .ok (.goto (-30), 3) := by decide +kernel
theorem d_C_steady_72 : decode b_C_steady 72 = .ok (.iload 6, 2) := by decide +kernel
theorem d_C_steady_74 : decode b_C_steady 74 = .ok (.aload 4, 2) := by decide +kernel
theorem d_C_steady_76 : decode b_C_steady 76 = .ok (.getfield 98, 3) := by decide +kernel
theorem d_C_steady_79 : decode b_C_steady 79 = .ok (.if_icmp .lt 13, 3) := by decide +kernel
theorem d_C_steady_82 : decode b_C_steady 82 = .ok (.new 80, 3) := by decide +kernel
theorem d_C_steady_85 : decode b_C_steady 85 = .ok (.dup, 1) := by decide +kernel
theorem d_C_steady_86 : decode b_C_steady 86 = .ok (.ldc 155, 2) := by decide +kernel
theorem d_C_steady_88 : decode b_C_steady 88 = .ok (.invokespecial 84, 3) := by decide +kernel
theorem d_C_steady_91 : decode b_C_steady 91 = .ok (.athrow, 1) := by decide +kernel
theorem d_C_steady_92 : decode b_C_steady 92 = .ok (.iload 6, 2) := by decide +kernel
theorem d_C_steady_94 : decode b_C_steady 94 = .ok (.ireturn, 1) := by decide +kernel
theorem d_C_thread_0 : decode b_C_thread 0 = .ok (.iload_n 1, 1) := by decide +kernel
theorem d_C_thread_1 : decode b_C_thread 1 = .ok (.iconst 1, 1) := by decide +kernel
theorem d_C_thread_2 : decode b_C_thread 2 = .ok (.sipush 1000, 3) := by decide +kernel
theorem d_C_thread_5 : decode b_C_thread 5 = .ok (.invokestatic 47, 3) := by decide +kernel
theorem d_C_thread_8 : decode b_C_thread 8 = .ok (.iload_n 2, 1) := by decide +kernel
theorem d_C_thread_9 : decode b_C_thread 9 = .ok (.iconst 1, 1) := by decide +kernel
theorem d_C_thread_10 : decode b_C_thread 10 = .ok (.sipush 1000, 3) := by decide +kernel
theorem d_C_thread_13 : decode b_C_thread 13 = .ok (.invokestatic 47, 3) := by decide +kernel
theorem d_C_thread_16 : decode b_C_thread 16 = .ok (.aload_n 0, 1) := by decide +kernel
theorem d_C_thread_17 : decode b_C_thread 17 = .ok (.iload_n 1, 1) := by decide +kernel
theorem d_C_thread_18 : decode b_C_thread 18 = .ok (.putfield 218, 3) := by decide +kernel
theorem d_C_thread_21 : decode b_C_thread 21 = .ok (.aload_n 0, 1) := by decide +kernel
theorem d_C_thread_22 : decode b_C_thread 22 = .ok (.iload_n 2, 1) := by decide +kernel
theorem d_C_thread_23 : decode b_C_thread 23 = .ok (.putfield 221, 3) := by decide +kernel
theorem d_C_thread_26 : decode b_C_thread 26 = .ok (.return_, 1) := by decide +kernel
theorem d_C_threadAt_0 : decode b_C_threadAt 0 = .ok (.iload_n 2, 1) := by decide +kernel
theorem d_C_threadAt_1 : decode b_C_threadAt 1 = .ok (.invokestatic 195, 3) := by decide +kernel
theorem d_C_threadAt_4 : decode b_C_threadAt 4 = .ok (.iload_n 1, 1) := by decide +kernel
theorem d_C_threadAt_5 : decode b_C_threadAt 5 = .ok (.iconst 0, 1) := by decide +kernel
theorem d_C_threadAt_6 : decode b_C_threadAt 6 = .ok (.ldc 224, 2) := by decide +kernel
theorem d_C_threadAt_8 : decode b_C_threadAt 8 = .ok (.invokestatic 47, 3) := by decide +kernel
theorem d_C_threadAt_11 : decode b_C_threadAt 11 = .ok (.aload_n 0, 1) := by decide +kernel
theorem d_C_threadAt_12 : decode b_C_threadAt 12 = .ok (.getfield 221, 3) := by decide +kernel
theorem d_C_threadAt_15 : decode b_C_threadAt 15 = .ok (.ifCond .ne 13, 3) := by decide +kernel
theorem d_C_threadAt_18 : decode b_C_threadAt 18 = .ok (.new 80, 3) := by decide +kernel
theorem d_C_threadAt_21 : decode b_C_threadAt 21 = .ok (.dup, 1) := by decide +kernel
theorem d_C_threadAt_22 : decode b_C_threadAt 22 = .ok (.ldc 225, 2) := by decide +kernel
theorem d_C_threadAt_24 : decode b_C_threadAt 24 = .ok (.invokespecial 84, 3) := by decide +kernel
theorem d_C_threadAt_27 : decode b_C_threadAt 27 = .ok (.athrow, 1) := by decide +kernel
theorem d_C_threadAt_28 : decode b_C_threadAt 28 = .ok (.iload_n 1, 1) := by decide +kernel
theorem d_C_threadAt_29 : decode b_C_threadAt 29 = .ok (.i2l, 1) := by decide +kernel
theorem d_C_threadAt_30 : decode b_C_threadAt 30 = .ok (.aload_n 0, 1) := by decide +kernel
theorem d_C_threadAt_31 : decode b_C_threadAt 31 = .ok (.getfield 218, 3) := by decide +kernel
theorem d_C_threadAt_34 : decode b_C_threadAt 34 = .ok (.i2l, 1) := by decide +kernel
theorem d_C_threadAt_35 : decode b_C_threadAt 35 = .ok (.lmul, 1) := by decide +kernel
theorem d_C_threadAt_36 : decode b_C_threadAt 36 = .ok (.aload_n 0, 1) := by decide +kernel
theorem d_C_threadAt_37 : decode b_C_threadAt 37 = .ok (.getfield 221, 3) := by decide +kernel
theorem d_C_threadAt_40 : decode b_C_threadAt 40 = .ok (.i2l, 1) := by decide +kernel
theorem d_C_threadAt_41 : decode b_C_threadAt 41 = .ok (.iload_n 2, 1) := by decide +kernel
theorem d_C_threadAt_42 : decode b_C_threadAt 42 = .ok (.invokestatic 206, 3) := by decide +kernel
theorem d_C_threadAt_45 : decode b_C_threadAt 45 = .ok (.lreturn, 1) := by decide +kernel
theorem d_C_tool_0 : decode b_C_tool 0 = .ok (.iload_n 1, 1) := by decide +kernel
theorem d_C_tool_1 : decode b_C_tool 1 = .ok (.iconst 0, 1) := by decide +kernel
theorem d_C_tool_2 : decode b_C_tool 2 = .ok (.bipush 12, 2) := by decide +kernel
theorem d_C_tool_4 : decode b_C_tool 4 = .ok (.invokestatic 47, 3) := by decide +kernel
theorem d_C_tool_7 : decode b_C_tool 7 = .ok (.aload_n 0, 1) := by decide +kernel
theorem d_C_tool_8 : decode b_C_tool 8 = .ok (.getfield 110, 3) := by decide +kernel
theorem d_C_tool_11 : decode b_C_tool 11 = .ok (.bipush 6, 2) := by decide +kernel
theorem d_C_tool_13 : decode b_C_tool 13 = .ok (.if_icmp .lt 13, 3) := by decide +kernel
theorem d_C_tool_16 : decode b_C_tool 16 = .ok (.new 80, 3) := by decide +kernel
theorem d_C_tool_19 : decode b_C_tool 19 = .ok (.dup, 1) := by decide +kernel
theorem d_C_tool_20 : decode b_C_tool 20 = .ok (.ldc 113, 2) := by decide +kernel
theorem d_C_tool_22 : decode b_C_tool 22 = .ok (.invokespecial 84, 3) := by decide +kernel
theorem d_C_tool_25 : decode b_C_tool 25 = .ok (.athrow, 1) := by decide +kernel
theorem d_C_tool_26 : decode b_C_tool 26 = .ok (.aload_n 0, 1) := by decide +kernel
theorem d_C_tool_27 : decode b_C_tool 27 = .ok (.getfield 24, 3) := by decide +kernel
theorem d_C_tool_30 : decode b_C_tool 30 = .ok (.aload_n 0, 1) := by decide +kernel
theorem d_C_tool_31 : decode b_C_tool 31 = .ok (.getfield 110, 3) := by decide +kernel
theorem d_C_tool_34 : decode b_C_tool 34 = .ok (.new 22, 3) := by decide +kernel
theorem d_C_tool_37 : decode b_C_tool 37 = .ok (.dup, 1) := by decide +kernel
theorem d_C_tool_38 : decode b_C_tool 38 = .ok (.iload_n 1, 1) := by decide +kernel
theorem d_C_tool_39 : decode b_C_tool 39 = .ok (.invokespecial 115, 3) := by decide +kernel
theorem d_C_tool_42 : decode b_C_tool 42 = .ok (.aastore, 1) := by decide +kernel
theorem d_C_tool_43 : decode b_C_tool 43 = .ok (.aload_n 0, 1) := by decide +kernel
theorem d_C_tool_44 : decode b_C_tool 44 = .ok (.dup, 1) := by decide +kernel
theorem d_C_tool_45 : decode b_C_tool 45 = .ok (.getfield 110, 3) := by decide +kernel
theorem d_C_tool_48 : decode b_C_tool 48 = .ok (.iconst 1, 1) := by decide +kernel
theorem d_C_tool_49 : decode b_C_tool 49 = .ok (.iadd, 1) := by decide +kernel
theorem d_C_tool_50 : decode b_C_tool 50 = .ok (.putfield 110, 3) := by decide +kernel
theorem d_C_tool_53 : decode b_C_tool 53 = .ok (.aload_n 0, 1) := by decide +kernel
theorem d_C_tool_54 : decode b_C_tool 54 = .ok (.getfield 110, 3) := by decide +kernel
theorem d_C_tool_57 : decode b_C_tool 57 = .ok (.iconst 1, 1) := by decide +kernel
theorem d_C_tool_58 : decode b_C_tool 58 = .ok (.isub, 1) := by decide +kernel
theorem d_C_tool_59 : decode b_C_tool 59 = .ok (.ireturn, 1) := by decide +kernel
theorem d_C_turn_0 : decode b_C_turn 0 = .ok (.aload_n 0, 1) := by decide +kernel
theorem d_C_turn_1 : decode b_C_turn 1 = .ok (.getfield 77, 3) := by decide +kernel
theorem d_C_turn_4 : decode b_C_turn 4 = .ok (.bipush 6, 2) := by decide +kernel
theorem d_C_turn_6 : decode b_C_turn 6 = .ok (.if_icmp .ge 13, 3) := by decide +kernel
theorem d_C_turn_9 : decode b_C_turn 9 = .ok (.aload_n 0, 1) := by decide +kernel
theorem d_C_turn_10 : decode b_C_turn 10 = .ok (.getfield 10, 3) := by decide +kernel
theorem d_C_turn_13 : decode b_C_turn 13 = .ok (.getfield 65, 3) := by decide +kernel
theorem d_C_turn_16 : decode b_C_turn 16 = .ok (.ifCond .ne 13, 3) := by decide +kernel
theorem d_C_turn_19 : decode b_C_turn 19 = .ok (.new 80, 3) := by decide +kernel
theorem d_C_turn_22 : decode b_C_turn 22 = .ok (.dup, 1) := by decide +kernel
theorem d_C_turn_23 : decode b_C_turn 23 = .ok (.ldc 82, 2) := by decide +kernel
theorem d_C_turn_25 : decode b_C_turn 25 = .ok (.invokespecial 84, 3) := by decide +kernel
theorem d_C_turn_28 : decode b_C_turn 28 = .ok (.athrow, 1) := by decide +kernel
theorem d_C_turn_29 : decode b_C_turn 29 = .ok (.aload_n 0, 1) := by decide +kernel
theorem d_C_turn_30 : decode b_C_turn 30 = .ok (.getfield 18, 3) := by decide +kernel
theorem d_C_turn_33 : decode b_C_turn 33 = .ok (.aload_n 0, 1) := by decide +kernel
theorem d_C_turn_34 : decode b_C_turn 34 = .ok (.getfield 77, 3) := by decide +kernel
theorem d_C_turn_37 : decode b_C_turn 37 = .ok (.new 16, 3) := by decide +kernel
theorem d_C_turn_40 : decode b_C_turn 40 = .ok (.dup, 1) := by decide +kernel
theorem d_C_turn_41 : decode b_C_turn 41 = .ok (.aload_n 0, 1) := by decide +kernel
theorem d_C_turn_42 : decode b_C_turn 42 = .ok (.getfield 10, 3) := by decide +kernel
theorem d_C_turn_45 : decode b_C_turn 45 = .ok (.invokespecial 87, 3) := by decide +kernel
theorem d_C_turn_48 : decode b_C_turn 48 = .ok (.aastore, 1) := by decide +kernel
theorem d_C_turn_49 : decode b_C_turn 49 = .ok (.aload_n 0, 1) := by decide +kernel
theorem d_C_turn_50 : decode b_C_turn 50 = .ok (.dup, 1) := by decide +kernel
theorem d_C_turn_51 : decode b_C_turn 51 = .ok (.getfield 77, 3) := by decide +kernel
theorem d_C_turn_54 : decode b_C_turn 54 = .ok (.iconst 1, 1) := by decide +kernel
theorem d_C_turn_55 : decode b_C_turn 55 = .ok (.iadd, 1) := by decide +kernel
theorem d_C_turn_56 : decode b_C_turn 56 = .ok (.putfield 77, 3) := by decide +kernel
theorem d_C_turn_59 : decode b_C_turn 59 = .ok (.aload_n 0, 1) := by decide +kernel
theorem d_C_turn_60 : decode b_C_turn 60 = .ok (.getfield 77, 3) := by decide +kernel
theorem d_C_turn_63 : decode b_C_turn 63 = .ok (.iconst 1, 1) := by decide +kernel
theorem d_C_turn_64 : decode b_C_turn 64 = .ok (.isub, 1) := by decide +kernel
theorem d_C_turn_65 : decode b_C_turn 65 = .ok (.ireturn, 1) := by decide +kernel
theorem d_C_volume_0 : decode b_C_volume 0 = .ok (.aload_n 0, 1) := by decide +kernel
theorem d_C_volume_1 : decode b_C_volume 1 = .ok (.iload_n 1, 1) := by decide +kernel
theorem d_C_volume_2 : decode b_C_volume 2 = .ok (.invokevirtual 94, 3) := by decide +kernel
theorem d_C_volume_5 : decode b_C_volume 5 = .ok (.iload_n 2, 1) := by decide +kernel
theorem d_C_volume_6 : decode b_C_volume 6 = .ok (.invokevirtual 157, 3) := by decide +kernel
theorem d_C_volume_9 : decode b_C_volume 9 = .ok (.lstore_n 3, 1) := by decide +kernel
theorem d_C_volume_10 : decode b_C_volume 10 = .ok (.iload_n 2, 1) := by decide +kernel
theorem d_C_volume_11 : decode b_C_volume 11 = .ok (.ifCond .eq 17, 3) := by decide +kernel
theorem d_C_volume_14 : decode b_C_volume 14 = .ok (.lload_n 3, 1) := by decide +kernel
theorem d_C_volume_15 : decode b_C_volume 15 = .ok (.ldc2_w 161, 3) := by decide +kernel
theorem d_C_volume_18 : decode b_C_volume 18 = .ok (.lmul, 1) := by decide +kernel
theorem d_C_volume_19 : decode b_C_volume 19 = .ok (.ldc2_w 163, 3) := by decide +kernel
theorem d_C_volume_22 : decode b_C_volume 22 = .ok (.ldiv, 1) := by decide +kernel
theorem d_C_volume_23 : decode b_C_volume 23 = .ok (.lconst 1, 1) := by decide +kernel
theorem d_C_volume_24 : decode b_C_volume 24 = .ok (.ladd, 1) := by decide +kernel
theorem d_C_volume_25 : decode b_C_volume 25 = .ok (.goto 12, 3) := by decide +kernel
theorem d_C_volume_28 : decode b_C_volume 28 = .ok (.lload_n 3, 1) := by decide +kernel
theorem d_C_volume_29 : decode b_C_volume 29 = .ok (.ldc2_w 165, 3) := by decide +kernel
theorem d_C_volume_32 : decode b_C_volume 32 = .ok (.lmul, 1) := by decide +kernel
theorem d_C_volume_33 : decode b_C_volume 33 = .ok (.ldc2_w 163, 3) := by decide +kernel
theorem d_C_volume_36 : decode b_C_volume 36 = .ok (.ldiv, 1) := by decide +kernel
theorem d_C_volume_37 : decode b_C_volume 37 = .ok (.lreturn, 1) := by decide +kernel
theorem d_C_wedge_0 : decode b_C_wedge 0 = .ok (.aload_n 0, 1) := by decide +kernel
theorem d_C_wedge_1 : decode b_C_wedge 1 = .ok (.iload_n 1, 1) := by decide +kernel
theorem d_C_wedge_2 : decode b_C_wedge 2 = .ok (.invokevirtual 181, 3) := by decide +kernel
theorem d_C_wedge_5 : decode b_C_wedge 5 = .ok (.astore 4, 2) := by decide +kernel
theorem d_C_wedge_7 : decode b_C_wedge 7 = .ok (.iload_n 2, 1) := by decide +kernel
theorem d_C_wedge_8 : decode b_C_wedge 8 = .ok (.iconst 1, 1) := by decide +kernel
theorem d_C_wedge_9 : decode b_C_wedge 9 = .ok (.sipush 3600, 3) := by decide +kernel
theorem d_C_wedge_12 : decode b_C_wedge 12 = .ok (.invokestatic 47, 3) := by decide +kernel
theorem d_C_wedge_15 : decode b_C_wedge 15 = .ok (.iload_n 3, 1) := by decide +kernel
theorem d_C_wedge_16 : decode b_C_wedge 16 = .ok (.iconst 1, 1) := by decide +kernel
theorem d_C_wedge_17 : decode b_C_wedge 17 = .ok (.bipush 12, 2) := by decide +kernel
theorem d_C_wedge_19 : decode b_C_wedge 19 = .ok (.invokestatic 47, 3) := by decide +kernel
theorem d_C_wedge_22 : decode b_C_wedge 22 = .ok (.aload 4, 2) := by decide +kernel
theorem d_C_wedge_24 : decode b_C_wedge 24 = .ok (.getfield 185, 3) := by decide +kernel
theorem d_C_wedge_27 : decode b_C_wedge 27 = .ok (.bipush 16, 2) := by decide +kernel
theorem d_C_wedge_29 : decode b_C_wedge 29 = .ok (.if_icmp .lt 13, 3) := by decide +kernel
theorem d_C_wedge_32 : decode b_C_wedge 32 = .ok (.new 80, 3) := by decide +kernel
theorem d_C_wedge_35 : decode b_C_wedge 35 = .ok (.dup, 1) := by decide +kernel
theorem d_C_wedge_36 : decode b_C_wedge 36 = .ok (.ldc 188, 2) := by decide +kernel
theorem d_C_wedge_38 : decode b_C_wedge 38 = .ok (.invokespecial 84, 3) := by decide +kernel
theorem d_C_wedge_41 : decode b_C_wedge 41 = .ok (.athrow, 1) := by decide +kernel
theorem d_C_wedge_42 : decode b_C_wedge 42 = .ok (.aload 4, 2) := by decide +kernel
theorem d_C_wedge_44 : decode b_C_wedge 44 = .ok (.iload_n 2, 1) := by decide +kernel
theorem d_C_wedge_45 : decode b_C_wedge 45 = .ok (.iload_n 3, 1) := by decide +kernel
theorem d_C_wedge_46 : decode b_C_wedge 46 = .ok (.invokevirtual 190, 3) := by decide +kernel
theorem d_C_wedge_49 : decode b_C_wedge 49 = .ok (.aload 4, 2) := by decide +kernel
theorem d_C_wedge_51 : decode b_C_wedge 51 = .ok (.getfield 185, 3) := by decide +kernel
theorem d_C_wedge_54 : decode b_C_wedge 54 = .ok (.ireturn, 1) := by decide +kernel
theorem d_C_wholeRoot_0 : decode b_C_wholeRoot 0 = .ok (.iconst 0, 1) := by decide +kernel
theorem d_C_wholeRoot_1 : decode b_C_wholeRoot 1 = .ok (.istore_n 1, 1) := by decide +kernel
theorem d_C_wholeRoot_2 : decode b_C_wholeRoot 2 = .ok (.bipush 11, 2) := by decide +kernel
theorem d_C_wholeRoot_4 : decode b_C_wholeRoot 4 = .ok (.istore_n 2, 1) := by decide +kernel
theorem d_C_wholeRoot_5 : decode b_C_wholeRoot 5 = .ok (.iload_n 2, 1) := by decide +kernel
theorem d_C_wholeRoot_6 : decode b_C_wholeRoot 6 = .ok (.ifCond .lt 24, 3) := by decide +kernel
theorem d_C_wholeRoot_9 : decode b_C_wholeRoot 9 = .ok (.iload_n 1, 1) := by decide +kernel
theorem d_C_wholeRoot_10 : decode b_C_wholeRoot 10 = .ok (.iconst 1, 1) := by decide +kernel
theorem d_C_wholeRoot_11 : decode b_C_wholeRoot 11 = .ok (.iload_n 2, 1) := by decide +kernel
theorem d_C_wholeRoot_12 : decode b_C_wholeRoot 12 = .ok (.ishl, 1) := by decide +kernel
theorem d_C_wholeRoot_13 : decode b_C_wholeRoot 13 = .ok (.iadd, 1) := by decide +kernel
theorem d_C_wholeRoot_14 : decode b_C_wholeRoot 14 = .ok (.istore_n 3, 1) := by decide +kernel
theorem d_C_wholeRoot_15 : decode b_C_wholeRoot 15 = .ok (.iload_n 3, 1) := by decide +kernel
theorem d_C_wholeRoot_16 : decode b_C_wholeRoot 16 = .ok (.iload_n 3, 1) := by decide +kernel
theorem d_C_wholeRoot_17 : decode b_C_wholeRoot 17 = .ok (.imul, 1) := by decide +kernel
theorem d_C_wholeRoot_18 : decode b_C_wholeRoot 18 = .ok (.iload_n 0, 1) := by decide +kernel
theorem d_C_wholeRoot_19 : decode b_C_wholeRoot 19 = .ok (.if_icmp .gt 5, 3) := by decide +kernel
theorem d_C_wholeRoot_22 : decode b_C_wholeRoot 22 = .ok (.iload_n 3, 1) := by decide +kernel
theorem d_C_wholeRoot_23 : decode b_C_wholeRoot 23 = .ok (.istore_n 1, 1) := by decide +kernel
theorem d_C_wholeRoot_24 : decode b_C_wholeRoot 24 = .ok (.iinc 2 (-1), 3) := by decide +kernel
theorem d_C_wholeRoot_27 : decode b_C_wholeRoot 27 = .ok (.goto (-22), 3) := by decide +kernel
theorem d_C_wholeRoot_30 : decode b_C_wholeRoot 30 = .ok (.iload_n 1, 1) := by decide +kernel
theorem d_C_wholeRoot_31 : decode b_C_wholeRoot 31 = .ok (.ireturn, 1) := by decide +kernel
end
section
theorem d_L_about_0 : decode b_L_about 0 = .ok (.aload_n 3, 1) := by decide +kernel
theorem d_L_about_1 : decode b_L_about 1 = .ok (.iconst 0, 1) := by decide +kernel
theorem d_L_about_2 : decode b_L_about 2 = .ok (.aload_n 0, 1) := by decide +kernel
theorem d_L_about_3 : decode b_L_about 3 = .ok (.iload_n 1, 1) := by decide +kernel
theorem d_L_about_4 : decode b_L_about 4 = .ok (.iload_n 2, 1) := by decide +kernel
theorem d_L_about_5 : decode b_L_about 5 = .ok (.invokevirtual 34, 3) := by decide +kernel
theorem d_L_about_8 : decode b_L_about 8 = .ok (.i2l, 1) := by decide +kernel
theorem d_L_about_9 : decode b_L_about 9 = .ok (.lastore, 1) := by decide +kernel
theorem d_L_about_10 : decode b_L_about 10 = .ok (.goto 7, 3) := by decide +kernel
theorem d_L_about_13 : decode b_L_about 13 = .ok (.astore 4, 2) := by decide +kernel
theorem d_L_about_15 : decode b_L_about 15 = .ok (.iconst 1, 1) := by decide +kernel
theorem d_L_about_16 : decode b_L_about 16 = .ok (.ireturn, 1) := by decide +kernel
theorem d_L_about_17 : decode b_L_about 17 = .ok (.iconst 0, 1) := by decide +kernel
theorem d_L_about_18 : decode b_L_about 18 = .ok (.ireturn, 1) := by decide +kernel
theorem d_L_arc_0 : decode b_L_arc 0 = .ok (.aload 6, 2) := by decide +kernel
theorem d_L_arc_2 : decode b_L_arc 2 = .ok (.iconst 0, 1) := by decide +kernel
theorem d_L_arc_3 : decode b_L_arc 3 = .ok (.aload_n 0, 1) := by decide +kernel
theorem d_L_arc_4 : decode b_L_arc 4 = .ok (.iload_n 1, 1) := by decide +kernel
theorem d_L_arc_5 : decode b_L_arc 5 = .ok (.iload_n 2, 1) := by decide +kernel
theorem d_L_arc_6 : decode b_L_arc 6 = .ok (.iload_n 3, 1) := by decide +kernel
theorem d_L_arc_7 : decode b_L_arc 7 = .ok (.iload 4, 2) := by decide +kernel
theorem d_L_arc_9 : decode b_L_arc 9 = .ok (.iload 5, 2) := by decide +kernel
theorem d_L_arc_11 : decode b_L_arc 11 = .ok (.invokevirtual 21, 3) := by decide +kernel
theorem d_L_arc_14 : decode b_L_arc 14 = .ok (.ifCond .eq 7, 3) := by decide +kernel
theorem d_L_arc_17 : decode b_L_arc 17 = .ok (.lconst 1, 1) := by decide +kernel
theorem d_L_arc_18 : decode b_L_arc 18 = .ok (.goto 4, 3) := by decide +kernel
theorem d_L_arc_21 : decode b_L_arc 21 = .ok (.lconst 0, 1) := by decide +kernel
theorem d_L_arc_22 : decode b_L_arc 22 = .ok (.lastore, 1) := by decide +kernel
theorem d_L_arc_23 : decode b_L_arc 23 = .ok (.goto 11, 3) := by decide +kernel
theorem d_L_arc_26 : decode b_L_arc 26 = .ok (.astore 7, 2) := by decide +kernel
theorem d_L_arc_28 : decode b_L_arc 28 = .ok (.iconst 1, 1) := by decide +kernel
theorem d_L_arc_29 : decode b_L_arc 29 = .ok (.ireturn, 1) := by decide +kernel
theorem d_L_arc_30 : decode b_L_arc 30 = .ok (.astore 7, 2) := by decide +kernel
theorem d_L_arc_32 : decode b_L_arc 32 = .ok (.iconst 2, 1) := by decide +kernel
theorem d_L_arc_33 : decode b_L_arc 33 = .ok (.ireturn, 1) := by decide +kernel
theorem d_L_arc_34 : decode b_L_arc 34 = .ok (.iconst 0, 1) := by decide +kernel
theorem d_L_arc_35 : decode b_L_arc 35 = .ok (.ireturn, 1) := by decide +kernel
theorem d_L_closes_0 : decode b_L_closes 0 = .ok (.aload_n 2, 1) := by decide +kernel
theorem d_L_closes_1 : decode b_L_closes 1 = .ok (.iconst 0, 1) := by decide +kernel
theorem d_L_closes_2 : decode b_L_closes 2 = .ok (.aload_n 0, 1) := by decide +kernel
theorem d_L_closes_3 : decode b_L_closes 3 = .ok (.iload_n 1, 1) := by decide +kernel
theorem d_L_closes_4 : decode b_L_closes 4 = .ok (.invokevirtual 83, 3) := by decide +kernel
theorem d_L_closes_7 : decode b_L_closes 7 = .ok (.ifCond .eq 7, 3) := by decide +kernel
theorem d_L_closes_10 : decode b_L_closes 10 = .ok (.lconst 1, 1) := by decide +kernel
theorem d_L_closes_11 : decode b_L_closes 11 = .ok (.goto 4, 3) := by decide +kernel
theorem d_L_closes_14 : decode b_L_closes 14 = .ok (.lconst 0, 1) := by decide +kernel
theorem d_L_closes_15 : decode b_L_closes 15 = .ok (.lastore, 1) := by decide +kernel
theorem d_L_closes_16 : decode b_L_closes 16 = .ok (.goto 6, 3) := by decide +kernel
theorem d_L_closes_19 : decode b_L_closes 19 = .ok (.astore_n 3, 1) := by decide +kernel
theorem d_L_closes_20 : decode b_L_closes 20 = .ok (.iconst 1, 1) := by decide +kernel
theorem d_L_closes_21 : decode b_L_closes 21 = .ok (.ireturn, 1) := by decide +kernel
theorem d_L_closes_22 : decode b_L_closes 22 = .ok (.iconst 0, 1) := by decide +kernel
theorem d_L_closes_23 : decode b_L_closes 23 = .ok (.ireturn, 1) := by decide +kernel
theorem d_L_copy_0 : decode b_L_copy 0 = .ok (.aload_n 3, 1) := by decide +kernel
theorem d_L_copy_1 : decode b_L_copy 1 = .ok (.iconst 0, 1) := by decide +kernel
theorem d_L_copy_2 : decode b_L_copy 2 = .ok (.aload_n 0, 1) := by decide +kernel
theorem d_L_copy_3 : decode b_L_copy 3 = .ok (.iload_n 1, 1) := by decide +kernel
theorem d_L_copy_4 : decode b_L_copy 4 = .ok (.iload_n 2, 1) := by decide +kernel
theorem d_L_copy_5 : decode b_L_copy 5 = .ok (.invokevirtual 66, 3) := by decide +kernel
theorem d_L_copy_8 : decode b_L_copy 8 = .ok (.i2l, 1) := by decide +kernel
theorem d_L_copy_9 : decode b_L_copy 9 = .ok (.lastore, 1) := by decide +kernel
theorem d_L_copy_10 : decode b_L_copy 10 = .ok (.goto 7, 3) := by decide +kernel
theorem d_L_copy_13 : decode b_L_copy 13 = .ok (.astore 4, 2) := by decide +kernel
theorem d_L_copy_15 : decode b_L_copy 15 = .ok (.iconst 1, 1) := by decide +kernel
theorem d_L_copy_16 : decode b_L_copy 16 = .ok (.ireturn, 1) := by decide +kernel
theorem d_L_copy_17 : decode b_L_copy 17 = .ok (.iconst 0, 1) := by decide +kernel
theorem d_L_copy_18 : decode b_L_copy 18 = .ok (.ireturn, 1) := by decide +kernel
theorem d_L_cut_0 : decode b_L_cut 0 = .ok (.aload 6, 2) := by decide +kernel
theorem d_L_cut_2 : decode b_L_cut 2 = .ok (.iconst 0, 1) := by decide +kernel
theorem d_L_cut_3 : decode b_L_cut 3 = .ok (.aload_n 0, 1) := by decide +kernel
theorem d_L_cut_4 : decode b_L_cut 4 = .ok (.iload_n 1, 1) := by decide +kernel
theorem d_L_cut_5 : decode b_L_cut 5 = .ok (.iload_n 2, 1) := by decide +kernel
theorem d_L_cut_6 : decode b_L_cut 6 = .ok (.iload_n 3, 1) := by decide +kernel
theorem d_L_cut_7 : decode b_L_cut 7 = .ok (.iload 4, 2) := by decide +kernel
theorem d_L_cut_9 : decode b_L_cut 9 = .ok (.iload 5, 2) := by decide +kernel
theorem d_L_cut_11 : decode b_L_cut 11 = .ok (.invokevirtual 52, 3) := by decide +kernel
theorem d_L_cut_14 : decode b_L_cut 14 = .ok (.i2l, 1) := by decide +kernel
theorem d_L_cut_15 : decode b_L_cut 15 = .ok (.lastore, 1) := by decide +kernel
theorem d_L_cut_16 : decode b_L_cut 16 = .ok (.goto 11, 3) := by decide +kernel
theorem d_L_cut_19 : decode b_L_cut 19 = .ok (.astore 7, 2) := by decide +kernel
theorem d_L_cut_21 : decode b_L_cut 21 = .ok (.iconst 1, 1) := by decide +kernel
theorem d_L_cut_22 : decode b_L_cut 22 = .ok (.ireturn, 1) := by decide +kernel
theorem d_L_cut_23 : decode b_L_cut 23 = .ok (.astore 7, 2) := by decide +kernel
theorem d_L_cut_25 : decode b_L_cut 25 = .ok (.iconst 2, 1) := by decide +kernel
theorem d_L_cut_26 : decode b_L_cut 26 = .ok (.ireturn, 1) := by decide +kernel
theorem d_L_cut_27 : decode b_L_cut 27 = .ok (.iconst 0, 1) := by decide +kernel
theorem d_L_cut_28 : decode b_L_cut 28 = .ok (.ireturn, 1) := by decide +kernel
theorem d_L_flute_0 : decode b_L_flute 0 = .ok (.aload 4, 2) := by decide +kernel
theorem d_L_flute_2 : decode b_L_flute 2 = .ok (.iconst 0, 1) := by decide +kernel
theorem d_L_flute_3 : decode b_L_flute 3 = .ok (.aload_n 0, 1) := by decide +kernel
theorem d_L_flute_4 : decode b_L_flute 4 = .ok (.iload_n 1, 1) := by decide +kernel
theorem d_L_flute_5 : decode b_L_flute 5 = .ok (.iload_n 2, 1) := by decide +kernel
theorem d_L_flute_6 : decode b_L_flute 6 = .ok (.iload_n 3, 1) := by decide +kernel
theorem d_L_flute_7 : decode b_L_flute 7 = .ok (.invokevirtual 87, 3) := by decide +kernel
theorem d_L_flute_10 : decode b_L_flute 10 = .ok (.lastore, 1) := by decide +kernel
theorem d_L_flute_11 : decode b_L_flute 11 = .ok (.goto 11, 3) := by decide +kernel
theorem d_L_flute_14 : decode b_L_flute 14 = .ok (.astore 5, 2) := by decide +kernel
theorem d_L_flute_16 : decode b_L_flute 16 = .ok (.iconst 1, 1) := by decide +kernel
theorem d_L_flute_17 : decode b_L_flute 17 = .ok (.ireturn, 1) := by decide +kernel
theorem d_L_flute_18 : decode b_L_flute 18 = .ok (.astore 5, 2) := by decide +kernel
theorem d_L_flute_20 : decode b_L_flute 20 = .ok (.iconst 2, 1) := by decide +kernel
theorem d_L_flute_21 : decode b_L_flute 21 = .ok (.ireturn, 1) := by decide +kernel
theorem d_L_flute_22 : decode b_L_flute 22 = .ok (.iconst 0, 1) := by decide +kernel
theorem d_L_flute_23 : decode b_L_flute 23 = .ok (.ireturn, 1) := by decide +kernel
theorem d_L_gap_0 : decode b_L_gap 0 = .ok (.aload_n 3, 1) := by decide +kernel
theorem d_L_gap_1 : decode b_L_gap 1 = .ok (.iconst 0, 1) := by decide +kernel
theorem d_L_gap_2 : decode b_L_gap 2 = .ok (.aload_n 0, 1) := by decide +kernel
theorem d_L_gap_3 : decode b_L_gap 3 = .ok (.iload_n 1, 1) := by decide +kernel
theorem d_L_gap_4 : decode b_L_gap 4 = .ok (.iload_n 2, 1) := by decide +kernel
theorem d_L_gap_5 : decode b_L_gap 5 = .ok (.invokevirtual 79, 3) := by decide +kernel
theorem d_L_gap_8 : decode b_L_gap 8 = .ok (.lastore, 1) := by decide +kernel
theorem d_L_gap_9 : decode b_L_gap 9 = .ok (.goto 7, 3) := by decide +kernel
theorem d_L_gap_12 : decode b_L_gap 12 = .ok (.astore 4, 2) := by decide +kernel
theorem d_L_gap_14 : decode b_L_gap 14 = .ok (.iconst 1, 1) := by decide +kernel
theorem d_L_gap_15 : decode b_L_gap 15 = .ok (.ireturn, 1) := by decide +kernel
theorem d_L_gap_16 : decode b_L_gap 16 = .ok (.iconst 0, 1) := by decide +kernel
theorem d_L_gap_17 : decode b_L_gap 17 = .ok (.ireturn, 1) := by decide +kernel
theorem d_L_hollow_0 : decode b_L_hollow 0 = .ok (.aload 4, 2) := by decide +kernel
theorem d_L_hollow_2 : decode b_L_hollow 2 = .ok (.iconst 0, 1) := by decide +kernel
theorem d_L_hollow_3 : decode b_L_hollow 3 = .ok (.aload_n 0, 1) := by decide +kernel
theorem d_L_hollow_4 : decode b_L_hollow 4 = .ok (.iload_n 1, 1) := by decide +kernel
theorem d_L_hollow_5 : decode b_L_hollow 5 = .ok (.iload_n 2, 1) := by decide +kernel
theorem d_L_hollow_6 : decode b_L_hollow 6 = .ok (.iload_n 3, 1) := by decide +kernel
theorem d_L_hollow_7 : decode b_L_hollow 7 = .ok (.invokevirtual 63, 3) := by decide +kernel
theorem d_L_hollow_10 : decode b_L_hollow 10 = .ok (.i2l, 1) := by decide +kernel
theorem d_L_hollow_11 : decode b_L_hollow 11 = .ok (.lastore, 1) := by decide +kernel
theorem d_L_hollow_12 : decode b_L_hollow 12 = .ok (.goto 11, 3) := by decide +kernel
theorem d_L_hollow_15 : decode b_L_hollow 15 = .ok (.astore 5, 2) := by decide +kernel
theorem d_L_hollow_17 : decode b_L_hollow 17 = .ok (.iconst 1, 1) := by decide +kernel
theorem d_L_hollow_18 : decode b_L_hollow 18 = .ok (.ireturn, 1) := by decide +kernel
theorem d_L_hollow_19 : decode b_L_hollow 19 = .ok (.astore 5, 2) := by decide +kernel
theorem d_L_hollow_21 : decode b_L_hollow 21 = .ok (.iconst 2, 1) := by decide +kernel
theorem d_L_hollow_22 : decode b_L_hollow 22 = .ok (.ireturn, 1) := by decide +kernel
theorem d_L_hollow_23 : decode b_L_hollow 23 = .ok (.iconst 0, 1) := by decide +kernel
theorem d_L_hollow_24 : decode b_L_hollow 24 = .ok (.ireturn, 1) := by decide +kernel
theorem d_L_left_0 : decode b_L_left 0 = .ok (.aload_n 3, 1) := by decide +kernel
theorem d_L_left_1 : decode b_L_left 1 = .ok (.iconst 0, 1) := by decide +kernel
theorem d_L_left_2 : decode b_L_left 2 = .ok (.aload_n 0, 1) := by decide +kernel
theorem d_L_left_3 : decode b_L_left 3 = .ok (.iload_n 1, 1) := by decide +kernel
theorem d_L_left_4 : decode b_L_left 4 = .ok (.iload_n 2, 1) := by decide +kernel
theorem d_L_left_5 : decode b_L_left 5 = .ok (.invokevirtual 45, 3) := by decide +kernel
theorem d_L_left_8 : decode b_L_left 8 = .ok (.i2l, 1) := by decide +kernel
theorem d_L_left_9 : decode b_L_left 9 = .ok (.lastore, 1) := by decide +kernel
theorem d_L_left_10 : decode b_L_left 10 = .ok (.goto 7, 3) := by decide +kernel
theorem d_L_left_13 : decode b_L_left 13 = .ok (.astore 4, 2) := by decide +kernel
theorem d_L_left_15 : decode b_L_left 15 = .ok (.iconst 1, 1) := by decide +kernel
theorem d_L_left_16 : decode b_L_left 16 = .ok (.ireturn, 1) := by decide +kernel
theorem d_L_left_17 : decode b_L_left 17 = .ok (.iconst 0, 1) := by decide +kernel
theorem d_L_left_18 : decode b_L_left 18 = .ok (.ireturn, 1) := by decide +kernel
theorem d_L_line_0 : decode b_L_line 0 = .ok (.aload_n 3, 1) := by decide +kernel
theorem d_L_line_1 : decode b_L_line 1 = .ok (.iconst 0, 1) := by decide +kernel
theorem d_L_line_2 : decode b_L_line 2 = .ok (.aload_n 0, 1) := by decide +kernel
theorem d_L_line_3 : decode b_L_line 3 = .ok (.iload_n 1, 1) := by decide +kernel
theorem d_L_line_4 : decode b_L_line 4 = .ok (.iload_n 2, 1) := by decide +kernel
theorem d_L_line_5 : decode b_L_line 5 = .ok (.invokevirtual 15, 3) := by decide +kernel
theorem d_L_line_8 : decode b_L_line 8 = .ok (.i2l, 1) := by decide +kernel
theorem d_L_line_9 : decode b_L_line 9 = .ok (.lastore, 1) := by decide +kernel
theorem d_L_line_10 : decode b_L_line 10 = .ok (.goto 11, 3) := by decide +kernel
theorem d_L_line_13 : decode b_L_line 13 = .ok (.astore 4, 2) := by decide +kernel
theorem d_L_line_15 : decode b_L_line 15 = .ok (.iconst 1, 1) := by decide +kernel
theorem d_L_line_16 : decode b_L_line 16 = .ok (.ireturn, 1) := by decide +kernel
theorem d_L_line_17 : decode b_L_line 17 = .ok (.astore 4, 2) := by decide +kernel
theorem d_L_line_19 : decode b_L_line 19 = .ok (.iconst 2, 1) := by decide +kernel
theorem d_L_line_20 : decode b_L_line 20 = .ok (.ireturn, 1) := by decide +kernel
theorem d_L_line_21 : decode b_L_line 21 = .ok (.iconst 0, 1) := by decide +kernel
theorem d_L_line_22 : decode b_L_line 22 = .ok (.ireturn, 1) := by decide +kernel
theorem d_L_mitre_0 : decode b_L_mitre 0 = .ok (.aload 4, 2) := by decide +kernel
theorem d_L_mitre_2 : decode b_L_mitre 2 = .ok (.iconst 0, 1) := by decide +kernel
theorem d_L_mitre_3 : decode b_L_mitre 3 = .ok (.aload_n 0, 1) := by decide +kernel
theorem d_L_mitre_4 : decode b_L_mitre 4 = .ok (.iload_n 1, 1) := by decide +kernel
theorem d_L_mitre_5 : decode b_L_mitre 5 = .ok (.iload_n 2, 1) := by decide +kernel
theorem d_L_mitre_6 : decode b_L_mitre 6 = .ok (.iload_n 3, 1) := by decide +kernel
theorem d_L_mitre_7 : decode b_L_mitre 7 = .ok (.invokevirtual 75, 3) := by decide +kernel
theorem d_L_mitre_10 : decode b_L_mitre 10 = .ok (.lastore, 1) := by decide +kernel
theorem d_L_mitre_11 : decode b_L_mitre 11 = .ok (.goto 7, 3) := by decide +kernel
theorem d_L_mitre_14 : decode b_L_mitre 14 = .ok (.astore 5, 2) := by decide +kernel
theorem d_L_mitre_16 : decode b_L_mitre 16 = .ok (.iconst 1, 1) := by decide +kernel
theorem d_L_mitre_17 : decode b_L_mitre 17 = .ok (.ireturn, 1) := by decide +kernel
theorem d_L_mitre_18 : decode b_L_mitre 18 = .ok (.iconst 0, 1) := by decide +kernel
theorem d_L_mitre_19 : decode b_L_mitre 19 = .ok (.ireturn, 1) := by decide +kernel
theorem d_L_passes_0 : decode b_L_passes 0 = .ok (.aload 5, 2) := by decide +kernel
theorem d_L_passes_2 : decode b_L_passes 2 = .ok (.iconst 0, 1) := by decide +kernel
theorem d_L_passes_3 : decode b_L_passes 3 = .ok (.aload_n 0, 1) := by decide +kernel
theorem d_L_passes_4 : decode b_L_passes 4 = .ok (.iload_n 1, 1) := by decide +kernel
theorem d_L_passes_5 : decode b_L_passes 5 = .ok (.iload_n 2, 1) := by decide +kernel
theorem d_L_passes_6 : decode b_L_passes 6 = .ok (.iload_n 3, 1) := by decide +kernel
theorem d_L_passes_7 : decode b_L_passes 7 = .ok (.iload 4, 2) := by decide +kernel
theorem d_L_passes_9 : decode b_L_passes 9 = .ok (.invokevirtual 48, 3) := by decide +kernel
theorem d_L_passes_12 : decode b_L_passes 12 = .ok (.i2l, 1) := by decide +kernel
theorem d_L_passes_13 : decode b_L_passes 13 = .ok (.lastore, 1) := by decide +kernel
theorem d_L_passes_14 : decode b_L_passes 14 = .ok (.goto 11, 3) := by decide +kernel
theorem d_L_passes_17 : decode b_L_passes 17 = .ok (.astore 6, 2) := by decide +kernel
theorem d_L_passes_19 : decode b_L_passes 19 = .ok (.iconst 1, 1) := by decide +kernel
theorem d_L_passes_20 : decode b_L_passes 20 = .ok (.ireturn, 1) := by decide +kernel
theorem d_L_passes_21 : decode b_L_passes 21 = .ok (.astore 6, 2) := by decide +kernel
theorem d_L_passes_23 : decode b_L_passes 23 = .ok (.iconst 2, 1) := by decide +kernel
theorem d_L_passes_24 : decode b_L_passes 24 = .ok (.ireturn, 1) := by decide +kernel
theorem d_L_passes_25 : decode b_L_passes 25 = .ok (.iconst 0, 1) := by decide +kernel
theorem d_L_passes_26 : decode b_L_passes 26 = .ok (.ireturn, 1) := by decide +kernel
theorem d_L_radius_0 : decode b_L_radius 0 = .ok (.aload_n 3, 1) := by decide +kernel
theorem d_L_radius_1 : decode b_L_radius 1 = .ok (.iconst 0, 1) := by decide +kernel
theorem d_L_radius_2 : decode b_L_radius 2 = .ok (.aload_n 0, 1) := by decide +kernel
theorem d_L_radius_3 : decode b_L_radius 3 = .ok (.iload_n 1, 1) := by decide +kernel
theorem d_L_radius_4 : decode b_L_radius 4 = .ok (.iload_n 2, 1) := by decide +kernel
theorem d_L_radius_5 : decode b_L_radius 5 = .ok (.invokevirtual 29, 3) := by decide +kernel
theorem d_L_radius_8 : decode b_L_radius 8 = .ok (.i2l, 1) := by decide +kernel
theorem d_L_radius_9 : decode b_L_radius 9 = .ok (.lastore, 1) := by decide +kernel
theorem d_L_radius_10 : decode b_L_radius 10 = .ok (.goto 7, 3) := by decide +kernel
theorem d_L_radius_13 : decode b_L_radius 13 = .ok (.astore 4, 2) := by decide +kernel
theorem d_L_radius_15 : decode b_L_radius 15 = .ok (.iconst 1, 1) := by decide +kernel
theorem d_L_radius_16 : decode b_L_radius 16 = .ok (.ireturn, 1) := by decide +kernel
theorem d_L_radius_17 : decode b_L_radius 17 = .ok (.iconst 0, 1) := by decide +kernel
theorem d_L_radius_18 : decode b_L_radius 18 = .ok (.ireturn, 1) := by decide +kernel
theorem d_L_reached_0 : decode b_L_reached 0 = .ok (.aload 4, 2) := by decide +kernel
theorem d_L_reached_2 : decode b_L_reached 2 = .ok (.iconst 0, 1) := by decide +kernel
theorem d_L_reached_3 : decode b_L_reached 3 = .ok (.aload_n 0, 1) := by decide +kernel
theorem d_L_reached_4 : decode b_L_reached 4 = .ok (.iload_n 1, 1) := by decide +kernel
theorem d_L_reached_5 : decode b_L_reached 5 = .ok (.iload_n 2, 1) := by decide +kernel
theorem d_L_reached_6 : decode b_L_reached 6 = .ok (.iload_n 3, 1) := by decide +kernel
theorem d_L_reached_7 : decode b_L_reached 7 = .ok (.invokevirtual 41, 3) := by decide +kernel
theorem d_L_reached_10 : decode b_L_reached 10 = .ok (.i2l, 1) := by decide +kernel
theorem d_L_reached_11 : decode b_L_reached 11 = .ok (.lastore, 1) := by decide +kernel
theorem d_L_reached_12 : decode b_L_reached 12 = .ok (.goto 7, 3) := by decide +kernel
theorem d_L_reached_15 : decode b_L_reached 15 = .ok (.astore 5, 2) := by decide +kernel
theorem d_L_reached_17 : decode b_L_reached 17 = .ok (.iconst 1, 1) := by decide +kernel
theorem d_L_reached_18 : decode b_L_reached 18 = .ok (.ireturn, 1) := by decide +kernel
theorem d_L_reached_19 : decode b_L_reached 19 = .ok (.iconst 0, 1) := by decide +kernel
theorem d_L_reached_20 : decode b_L_reached 20 = .ok (.ireturn, 1) := by decide +kernel
theorem d_L_ring_0 : decode b_L_ring 0 = .ok (.aload_n 1, 1) := by decide +kernel
theorem d_L_ring_1 : decode b_L_ring 1 = .ok (.iconst 0, 1) := by decide +kernel
theorem d_L_ring_2 : decode b_L_ring 2 = .ok (.aload_n 0, 1) := by decide +kernel
theorem d_L_ring_3 : decode b_L_ring 3 = .ok (.invokevirtual 69, 3) := by decide +kernel
theorem d_L_ring_6 : decode b_L_ring 6 = .ok (.i2l, 1) := by decide +kernel
theorem d_L_ring_7 : decode b_L_ring 7 = .ok (.lastore, 1) := by decide +kernel
theorem d_L_ring_8 : decode b_L_ring 8 = .ok (.goto 6, 3) := by decide +kernel
theorem d_L_ring_11 : decode b_L_ring 11 = .ok (.astore_n 2, 1) := by decide +kernel
theorem d_L_ring_12 : decode b_L_ring 12 = .ok (.iconst 1, 1) := by decide +kernel
theorem d_L_ring_13 : decode b_L_ring 13 = .ok (.ireturn, 1) := by decide +kernel
theorem d_L_ring_14 : decode b_L_ring 14 = .ok (.iconst 0, 1) := by decide +kernel
theorem d_L_ring_15 : decode b_L_ring 15 = .ok (.ireturn, 1) := by decide +kernel
theorem d_L_row_0 : decode b_L_row 0 = .ok (.aload_n 3, 1) := by decide +kernel
theorem d_L_row_1 : decode b_L_row 1 = .ok (.iconst 0, 1) := by decide +kernel
theorem d_L_row_2 : decode b_L_row 2 = .ok (.aload_n 0, 1) := by decide +kernel
theorem d_L_row_3 : decode b_L_row 3 = .ok (.iload_n 1, 1) := by decide +kernel
theorem d_L_row_4 : decode b_L_row 4 = .ok (.iload_n 2, 1) := by decide +kernel
theorem d_L_row_5 : decode b_L_row 5 = .ok (.invokevirtual 97, 3) := by decide +kernel
theorem d_L_row_8 : decode b_L_row 8 = .ok (.i2l, 1) := by decide +kernel
theorem d_L_row_9 : decode b_L_row 9 = .ok (.lastore, 1) := by decide +kernel
theorem d_L_row_10 : decode b_L_row 10 = .ok (.goto 11, 3) := by decide +kernel
theorem d_L_row_13 : decode b_L_row 13 = .ok (.astore 4, 2) := by decide +kernel
theorem d_L_row_15 : decode b_L_row 15 = .ok (.iconst 1, 1) := by decide +kernel
theorem d_L_row_16 : decode b_L_row 16 = .ok (.ireturn, 1) := by decide +kernel
theorem d_L_row_17 : decode b_L_row 17 = .ok (.astore 4, 2) := by decide +kernel
theorem d_L_row_19 : decode b_L_row 19 = .ok (.iconst 2, 1) := by decide +kernel
theorem d_L_row_20 : decode b_L_row 20 = .ok (.ireturn, 1) := by decide +kernel
theorem d_L_row_21 : decode b_L_row 21 = .ok (.iconst 0, 1) := by decide +kernel
theorem d_L_row_22 : decode b_L_row 22 = .ok (.ireturn, 1) := by decide +kernel
theorem d_L_speed_0 : decode b_L_speed 0 = .ok (.aload_n 3, 1) := by decide +kernel
theorem d_L_speed_1 : decode b_L_speed 1 = .ok (.iconst 0, 1) := by decide +kernel
theorem d_L_speed_2 : decode b_L_speed 2 = .ok (.aload_n 0, 1) := by decide +kernel
theorem d_L_speed_3 : decode b_L_speed 3 = .ok (.iload_n 1, 1) := by decide +kernel
theorem d_L_speed_4 : decode b_L_speed 4 = .ok (.iload_n 2, 1) := by decide +kernel
theorem d_L_speed_5 : decode b_L_speed 5 = .ok (.invokevirtual 100, 3) := by decide +kernel
theorem d_L_speed_8 : decode b_L_speed 8 = .ok (.i2l, 1) := by decide +kernel
theorem d_L_speed_9 : decode b_L_speed 9 = .ok (.lastore, 1) := by decide +kernel
theorem d_L_speed_10 : decode b_L_speed 10 = .ok (.goto 11, 3) := by decide +kernel
theorem d_L_speed_13 : decode b_L_speed 13 = .ok (.astore 4, 2) := by decide +kernel
theorem d_L_speed_15 : decode b_L_speed 15 = .ok (.iconst 1, 1) := by decide +kernel
theorem d_L_speed_16 : decode b_L_speed 16 = .ok (.ireturn, 1) := by decide +kernel
theorem d_L_speed_17 : decode b_L_speed 17 = .ok (.astore 4, 2) := by decide +kernel
theorem d_L_speed_19 : decode b_L_speed 19 = .ok (.iconst 2, 1) := by decide +kernel
theorem d_L_speed_20 : decode b_L_speed 20 = .ok (.ireturn, 1) := by decide +kernel
theorem d_L_speed_21 : decode b_L_speed 21 = .ok (.iconst 0, 1) := by decide +kernel
theorem d_L_speed_22 : decode b_L_speed 22 = .ok (.ireturn, 1) := by decide +kernel
theorem d_L_start_0 : decode b_L_start 0 = .ok (.aload_n 0, 1) := by decide +kernel
theorem d_L_start_1 : decode b_L_start 1 = .ok (.iload_n 1, 1) := by decide +kernel
theorem d_L_start_2 : decode b_L_start 2 = .ok (.invokevirtual 7, 3) := by decide +kernel
theorem d_L_start_5 : decode b_L_start 5 = .ok (.goto 6, 3) := by decide +kernel
theorem d_L_start_8 : decode b_L_start 8 = .ok (.astore_n 2, 1) := by decide +kernel
theorem d_L_start_9 : decode b_L_start 9 = .ok (.iconst 1, 1) := by decide +kernel
theorem d_L_start_10 : decode b_L_start 10 = .ok (.ireturn, 1) := by decide +kernel
theorem d_L_start_11 : decode b_L_start 11 = .ok (.iconst 0, 1) := by decide +kernel
theorem d_L_start_12 : decode b_L_start 12 = .ok (.ireturn, 1) := by decide +kernel
theorem d_L_steady_0 : decode b_L_steady 0 = .ok (.aload 4, 2) := by decide +kernel
theorem d_L_steady_2 : decode b_L_steady 2 = .ok (.iconst 0, 1) := by decide +kernel
theorem d_L_steady_3 : decode b_L_steady 3 = .ok (.aload_n 0, 1) := by decide +kernel
theorem d_L_steady_4 : decode b_L_steady 4 = .ok (.iload_n 1, 1) := by decide +kernel
theorem d_L_steady_5 : decode b_L_steady 5 = .ok (.iload_n 2, 1) := by decide +kernel
theorem d_L_steady_6 : decode b_L_steady 6 = .ok (.iload_n 3, 1) := by decide +kernel
theorem d_L_steady_7 : decode b_L_steady 7 = .ok (.invokevirtual 56, 3) := by decide +kernel
theorem d_L_steady_10 : decode b_L_steady 10 = .ok (.i2l, 1) := by decide +kernel
theorem d_L_steady_11 : decode b_L_steady 11 = .ok (.lastore, 1) := by decide +kernel
theorem d_L_steady_12 : decode b_L_steady 12 = .ok (.goto 15, 3) := by decide +kernel
theorem d_L_steady_15 : decode b_L_steady 15 = .ok (.astore 5, 2) := by decide +kernel
theorem d_L_steady_17 : decode b_L_steady 17 = .ok (.iconst 1, 1) := by decide +kernel
theorem d_L_steady_18 : decode b_L_steady 18 = .ok (.ireturn, 1) := by decide +kernel
theorem d_L_steady_19 : decode b_L_steady 19 = .ok (.astore 5, 2) := by decide +kernel
theorem d_L_steady_21 : decode b_L_steady 21 = .ok (.iconst 2, 1) := by decide +kernel
theorem d_L_steady_22 : decode b_L_steady 22 = .ok (.ireturn, 1) := by decide +kernel
theorem d_L_steady_23 : decode b_L_steady 23 = .ok (.astore 5, 2) := by decide +kernel
theorem d_L_steady_25 : decode b_L_steady 25 = .ok (.iconst 3, 1) := by decide +kernel
theorem d_L_steady_26 : decode b_L_steady 26 = .ok (.ireturn, 1) := by decide +kernel
theorem d_L_steady_27 : decode b_L_steady 27 = .ok (.iconst 0, 1) := by decide +kernel
theorem d_L_steady_28 : decode b_L_steady 28 = .ok (.ireturn, 1) := by decide +kernel
theorem d_L_thread_0 : decode b_L_thread 0 = .ok (.aload_n 0, 1) := by decide +kernel
theorem d_L_thread_1 : decode b_L_thread 1 = .ok (.iload_n 1, 1) := by decide +kernel
theorem d_L_thread_2 : decode b_L_thread 2 = .ok (.iload_n 2, 1) := by decide +kernel
theorem d_L_thread_3 : decode b_L_thread 3 = .ok (.invokevirtual 90, 3) := by decide +kernel
theorem d_L_thread_6 : decode b_L_thread 6 = .ok (.goto 6, 3) := by decide +kernel
theorem d_L_thread_9 : decode b_L_thread 9 = .ok (.astore_n 3, 1) := by decide +kernel
theorem d_L_thread_10 : decode b_L_thread 10 = .ok (.iconst 1, 1) := by decide +kernel
theorem d_L_thread_11 : decode b_L_thread 11 = .ok (.ireturn, 1) := by decide +kernel
theorem d_L_thread_12 : decode b_L_thread 12 = .ok (.iconst 0, 1) := by decide +kernel
theorem d_L_thread_13 : decode b_L_thread 13 = .ok (.ireturn, 1) := by decide +kernel
theorem d_L_threadAt_0 : decode b_L_threadAt 0 = .ok (.aload_n 3, 1) := by decide +kernel
theorem d_L_threadAt_1 : decode b_L_threadAt 1 = .ok (.iconst 0, 1) := by decide +kernel
theorem d_L_threadAt_2 : decode b_L_threadAt 2 = .ok (.aload_n 0, 1) := by decide +kernel
theorem d_L_threadAt_3 : decode b_L_threadAt 3 = .ok (.iload_n 1, 1) := by decide +kernel
theorem d_L_threadAt_4 : decode b_L_threadAt 4 = .ok (.iload_n 2, 1) := by decide +kernel
theorem d_L_threadAt_5 : decode b_L_threadAt 5 = .ok (.invokevirtual 94, 3) := by decide +kernel
theorem d_L_threadAt_8 : decode b_L_threadAt 8 = .ok (.lastore, 1) := by decide +kernel
theorem d_L_threadAt_9 : decode b_L_threadAt 9 = .ok (.goto 15, 3) := by decide +kernel
theorem d_L_threadAt_12 : decode b_L_threadAt 12 = .ok (.astore 4, 2) := by decide +kernel
theorem d_L_threadAt_14 : decode b_L_threadAt 14 = .ok (.iconst 1, 1) := by decide +kernel
theorem d_L_threadAt_15 : decode b_L_threadAt 15 = .ok (.ireturn, 1) := by decide +kernel
theorem d_L_threadAt_16 : decode b_L_threadAt 16 = .ok (.astore 4, 2) := by decide +kernel
theorem d_L_threadAt_18 : decode b_L_threadAt 18 = .ok (.iconst 2, 1) := by decide +kernel
theorem d_L_threadAt_19 : decode b_L_threadAt 19 = .ok (.ireturn, 1) := by decide +kernel
theorem d_L_threadAt_20 : decode b_L_threadAt 20 = .ok (.astore 4, 2) := by decide +kernel
theorem d_L_threadAt_22 : decode b_L_threadAt 22 = .ok (.iconst 3, 1) := by decide +kernel
theorem d_L_threadAt_23 : decode b_L_threadAt 23 = .ok (.ireturn, 1) := by decide +kernel
theorem d_L_threadAt_24 : decode b_L_threadAt 24 = .ok (.iconst 0, 1) := by decide +kernel
theorem d_L_threadAt_25 : decode b_L_threadAt 25 = .ok (.ireturn, 1) := by decide +kernel
theorem d_L_tool_0 : decode b_L_tool 0 = .ok (.aload_n 2, 1) := by decide +kernel
theorem d_L_tool_1 : decode b_L_tool 1 = .ok (.iconst 0, 1) := by decide +kernel
theorem d_L_tool_2 : decode b_L_tool 2 = .ok (.aload_n 0, 1) := by decide +kernel
theorem d_L_tool_3 : decode b_L_tool 3 = .ok (.iload_n 1, 1) := by decide +kernel
theorem d_L_tool_4 : decode b_L_tool 4 = .ok (.invokevirtual 37, 3) := by decide +kernel
theorem d_L_tool_7 : decode b_L_tool 7 = .ok (.i2l, 1) := by decide +kernel
theorem d_L_tool_8 : decode b_L_tool 8 = .ok (.lastore, 1) := by decide +kernel
theorem d_L_tool_9 : decode b_L_tool 9 = .ok (.goto 9, 3) := by decide +kernel
theorem d_L_tool_12 : decode b_L_tool 12 = .ok (.astore_n 3, 1) := by decide +kernel
theorem d_L_tool_13 : decode b_L_tool 13 = .ok (.iconst 1, 1) := by decide +kernel
theorem d_L_tool_14 : decode b_L_tool 14 = .ok (.ireturn, 1) := by decide +kernel
theorem d_L_tool_15 : decode b_L_tool 15 = .ok (.astore_n 3, 1) := by decide +kernel
theorem d_L_tool_16 : decode b_L_tool 16 = .ok (.iconst 2, 1) := by decide +kernel
theorem d_L_tool_17 : decode b_L_tool 17 = .ok (.ireturn, 1) := by decide +kernel
theorem d_L_tool_18 : decode b_L_tool 18 = .ok (.iconst 0, 1) := by decide +kernel
theorem d_L_tool_19 : decode b_L_tool 19 = .ok (.ireturn, 1) := by decide +kernel
theorem d_L_turn_0 : decode b_L_turn 0 = .ok (.aload_n 1, 1) := by decide +kernel
theorem d_L_turn_1 : decode b_L_turn 1 = .ok (.iconst 0, 1) := by decide +kernel
theorem d_L_turn_2 : decode b_L_turn 2 = .ok (.aload_n 0, 1) := by decide +kernel
theorem d_L_turn_3 : decode b_L_turn 3 = .ok (.invokevirtual 25, 3) := by decide +kernel
theorem d_L_turn_6 : decode b_L_turn 6 = .ok (.i2l, 1) := by decide +kernel
theorem d_L_turn_7 : decode b_L_turn 7 = .ok (.lastore, 1) := by decide +kernel
theorem d_L_turn_8 : decode b_L_turn 8 = .ok (.goto 6, 3) := by decide +kernel
theorem d_L_turn_11 : decode b_L_turn 11 = .ok (.astore_n 2, 1) := by decide +kernel
theorem d_L_turn_12 : decode b_L_turn 12 = .ok (.iconst 1, 1) := by decide +kernel
theorem d_L_turn_13 : decode b_L_turn 13 = .ok (.ireturn, 1) := by decide +kernel
theorem d_L_turn_14 : decode b_L_turn 14 = .ok (.iconst 0, 1) := by decide +kernel
theorem d_L_turn_15 : decode b_L_turn 15 = .ok (.ireturn, 1) := by decide +kernel
theorem d_L_volume_0 : decode b_L_volume 0 = .ok (.aload_n 3, 1) := by decide +kernel
theorem d_L_volume_1 : decode b_L_volume 1 = .ok (.iconst 0, 1) := by decide +kernel
theorem d_L_volume_2 : decode b_L_volume 2 = .ok (.aload_n 0, 1) := by decide +kernel
theorem d_L_volume_3 : decode b_L_volume 3 = .ok (.iload_n 1, 1) := by decide +kernel
theorem d_L_volume_4 : decode b_L_volume 4 = .ok (.iload_n 2, 1) := by decide +kernel
theorem d_L_volume_5 : decode b_L_volume 5 = .ok (.invokevirtual 59, 3) := by decide +kernel
theorem d_L_volume_8 : decode b_L_volume 8 = .ok (.lastore, 1) := by decide +kernel
theorem d_L_volume_9 : decode b_L_volume 9 = .ok (.goto 7, 3) := by decide +kernel
theorem d_L_volume_12 : decode b_L_volume 12 = .ok (.astore 4, 2) := by decide +kernel
theorem d_L_volume_14 : decode b_L_volume 14 = .ok (.iconst 1, 1) := by decide +kernel
theorem d_L_volume_15 : decode b_L_volume 15 = .ok (.ireturn, 1) := by decide +kernel
theorem d_L_volume_16 : decode b_L_volume 16 = .ok (.iconst 0, 1) := by decide +kernel
theorem d_L_volume_17 : decode b_L_volume 17 = .ok (.ireturn, 1) := by decide +kernel
theorem d_L_wedge_0 : decode b_L_wedge 0 = .ok (.aload 4, 2) := by decide +kernel
theorem d_L_wedge_2 : decode b_L_wedge 2 = .ok (.iconst 0, 1) := by decide +kernel
theorem d_L_wedge_3 : decode b_L_wedge 3 = .ok (.aload_n 0, 1) := by decide +kernel
theorem d_L_wedge_4 : decode b_L_wedge 4 = .ok (.iload_n 1, 1) := by decide +kernel
theorem d_L_wedge_5 : decode b_L_wedge 5 = .ok (.iload_n 2, 1) := by decide +kernel
theorem d_L_wedge_6 : decode b_L_wedge 6 = .ok (.iload_n 3, 1) := by decide +kernel
theorem d_L_wedge_7 : decode b_L_wedge 7 = .ok (.invokevirtual 72, 3) := by decide +kernel
theorem d_L_wedge_10 : decode b_L_wedge 10 = .ok (.i2l, 1) := by decide +kernel
theorem d_L_wedge_11 : decode b_L_wedge 11 = .ok (.lastore, 1) := by decide +kernel
theorem d_L_wedge_12 : decode b_L_wedge 12 = .ok (.goto 15, 3) := by decide +kernel
theorem d_L_wedge_15 : decode b_L_wedge 15 = .ok (.astore 5, 2) := by decide +kernel
theorem d_L_wedge_17 : decode b_L_wedge 17 = .ok (.iconst 1, 1) := by decide +kernel
theorem d_L_wedge_18 : decode b_L_wedge 18 = .ok (.ireturn, 1) := by decide +kernel
theorem d_L_wedge_19 : decode b_L_wedge 19 = .ok (.astore 5, 2) := by decide +kernel
theorem d_L_wedge_21 : decode b_L_wedge 21 = .ok (.iconst 2, 1) := by decide +kernel
theorem d_L_wedge_22 : decode b_L_wedge 22 = .ok (.ireturn, 1) := by decide +kernel
theorem d_L_wedge_23 : decode b_L_wedge 23 = .ok (.astore 5, 2) := by decide +kernel
theorem d_L_wedge_25 : decode b_L_wedge 25 = .ok (.iconst 3, 1) := by decide +kernel
theorem d_L_wedge_26 : decode b_L_wedge 26 = .ok (.ireturn, 1) := by decide +kernel
theorem d_L_wedge_27 : decode b_L_wedge 27 = .ok (.iconst 0, 1) := by decide +kernel
theorem d_L_wedge_28 : decode b_L_wedge 28 = .ok (.ireturn, 1) := by decide +kernel
end
section
theorem d_M_about_0 : decode b_M_about 0 = .ok (.aload_n 0, 1) := by decide +kernel
theorem d_M_about_1 : decode b_M_about 1 = .ok (.aload_n 0, 1) := by decide +kernel
theorem d_M_about_2 : decode b_M_about 2 = .ok (.iload_n 1, 1) := by decide +kernel
theorem d_M_about_3 : decode b_M_about 3 = .ok (.invokevirtual 117, 3) := by decide +kernel
theorem d_M_about_6 : decode b_M_about 6 = .ok (.ifCond .eq 19, 3) := by decide +kernel
theorem d_M_about_9 : decode b_M_about 9 = .ok (.iload_n 2, 1) := by decide +kernel
theorem d_M_about_10 : decode b_M_about 10 = .ok (.i2l, 1) := by decide +kernel
theorem d_M_about_11 : decode b_M_about 11 = .ok (.lconst 0, 1) := by decide +kernel
theorem d_M_about_12 : decode b_M_about 12 = .ok (.ldc2_w 125, 3) := by decide +kernel
theorem d_M_about_15 : decode b_M_about 15 = .ok (.invokestatic 64, 3) := by decide +kernel
theorem d_M_about_18 : decode b_M_about 18 = .ok (.ifCond .eq 7, 3) := by decide +kernel
theorem d_M_about_21 : decode b_M_about 21 = .ok (.iconst 0, 1) := by decide +kernel
theorem d_M_about_22 : decode b_M_about 22 = .ok (.goto 4, 3) := by decide +kernel
theorem d_M_about_25 : decode b_M_about 25 = .ok (.iconst 1, 1) := by decide +kernel
theorem d_M_about_26 : decode b_M_about 26 = .ok (.putfield 58, 3) := by decide +kernel
theorem d_M_about_29 : decode b_M_about 29 = .ok (.aload_n 0, 1) := by decide +kernel
theorem d_M_about_30 : decode b_M_about 30 = .ok (.getfield 58, 3) := by decide +kernel
theorem d_M_about_33 : decode b_M_about 33 = .ok (.ifCond .le 7, 3) := by decide +kernel
theorem d_M_about_36 : decode b_M_about 36 = .ok (.iconst 0, 1) := by decide +kernel
theorem d_M_about_37 : decode b_M_about 37 = .ok (.goto 35, 3) := by decide +kernel
theorem d_M_about_40 : decode b_M_about 40 = .ok (.iload_n 2, 1) := by decide +kernel
theorem d_M_about_41 : decode b_M_about 41 = .ok (.ifCond .ne 12, 3) := by decide +kernel
theorem d_M_about_44 : decode b_M_about 44 = .ok (.aload_n 0, 1) := by decide +kernel
theorem d_M_about_45 : decode b_M_about 45 = .ok (.getfield 25, 3) := by decide +kernel
theorem d_M_about_48 : decode b_M_about 48 = .ok (.iload_n 1, 1) := by decide +kernel
theorem d_M_about_49 : decode b_M_about 49 = .ok (.iaload, 1) := by decide +kernel
theorem d_M_about_50 : decode b_M_about 50 = .ok (.goto 22, 3) := by decide +kernel
theorem d_M_about_53 : decode b_M_about 53 = .ok (.iload_n 2, 1) := by decide +kernel
theorem d_M_about_54 : decode b_M_about 54 = .ok (.iconst 1, 1) := by decide +kernel
theorem d_M_about_55 : decode b_M_about 55 = .ok (.if_icmp .ne 11, 3) := by decide +kernel
theorem d_M_about_58 : decode b_M_about 58 = .ok (.aload_n 0, 1) := by decide +kernel
theorem d_M_about_59 : decode b_M_about 59 = .ok (.iload_n 1, 1) := by decide +kernel
theorem d_M_about_60 : decode b_M_about 60 = .ok (.invokevirtual 127, 3) := by decide +kernel
theorem d_M_about_63 : decode b_M_about 63 = .ok (.goto 9, 3) := by decide +kernel
theorem d_M_about_66 : decode b_M_about 66 = .ok (.aload_n 0, 1) := by decide +kernel
theorem d_M_about_67 : decode b_M_about 67 = .ok (.getfield 28, 3) := by decide +kernel
theorem d_M_about_70 : decode b_M_about 70 = .ok (.iload_n 1, 1) := by decide +kernel
theorem d_M_about_71 : decode b_M_about 71 = .ok (.iaload, 1) := by decide +kernel
theorem d_M_about_72 : decode b_M_about 72 = .ok (.ireturn, 1) := by decide +kernel
theorem d_M_add_0 : decode b_M_add 0 = .ok (.aload_n 0, 1) := by decide +kernel
theorem d_M_add_1 : decode b_M_add 1 = .ok (.getfield 7, 3) := by decide +kernel
theorem d_M_add_4 : decode b_M_add 4 = .ok (.aload_n 0, 1) := by decide +kernel
theorem d_M_add_5 : decode b_M_add 5 = .ok (.getfield 75, 3) := by decide +kernel
theorem d_M_add_8 : decode b_M_add 8 = .ok (.iload_n 1, 1) := by decide +kernel
theorem d_M_add_9 : decode b_M_add 9 = .ok (.iastore, 1) := by decide +kernel
theorem d_M_add_10 : decode b_M_add 10 = .ok (.aload_n 0, 1) := by decide +kernel
theorem d_M_add_11 : decode b_M_add 11 = .ok (.getfield 13, 3) := by decide +kernel
theorem d_M_add_14 : decode b_M_add 14 = .ok (.aload_n 0, 1) := by decide +kernel
theorem d_M_add_15 : decode b_M_add 15 = .ok (.getfield 75, 3) := by decide +kernel
theorem d_M_add_18 : decode b_M_add 18 = .ok (.iload_n 2, 1) := by decide +kernel
theorem d_M_add_19 : decode b_M_add 19 = .ok (.iastore, 1) := by decide +kernel
theorem d_M_add_20 : decode b_M_add 20 = .ok (.aload_n 0, 1) := by decide +kernel
theorem d_M_add_21 : decode b_M_add 21 = .ok (.getfield 16, 3) := by decide +kernel
theorem d_M_add_24 : decode b_M_add 24 = .ok (.aload_n 0, 1) := by decide +kernel
theorem d_M_add_25 : decode b_M_add 25 = .ok (.getfield 75, 3) := by decide +kernel
theorem d_M_add_28 : decode b_M_add 28 = .ok (.iload_n 3, 1) := by decide +kernel
theorem d_M_add_29 : decode b_M_add 29 = .ok (.iastore, 1) := by decide +kernel
theorem d_M_add_30 : decode b_M_add 30 = .ok (.aload_n 0, 1) := by decide +kernel
theorem d_M_add_31 : decode b_M_add 31 = .ok (.getfield 19, 3) := by decide +kernel
theorem d_M_add_34 : decode b_M_add 34 = .ok (.aload_n 0, 1) := by decide +kernel
theorem d_M_add_35 : decode b_M_add 35 = .ok (.getfield 75, 3) := by decide +kernel
theorem d_M_add_38 : decode b_M_add 38 = .ok (.iload 4, 2) := by decide +kernel
theorem d_M_add_40 : decode b_M_add 40 = .ok (.iastore, 1) := by decide +kernel
theorem d_M_add_41 : decode b_M_add 41 = .ok (.aload_n 0, 1) := by decide +kernel
theorem d_M_add_42 : decode b_M_add 42 = .ok (.getfield 22, 3) := by decide +kernel
theorem d_M_add_45 : decode b_M_add 45 = .ok (.aload_n 0, 1) := by decide +kernel
theorem d_M_add_46 : decode b_M_add 46 = .ok (.getfield 75, 3) := by decide +kernel
theorem d_M_add_49 : decode b_M_add 49 = .ok (.iload 5, 2) := by decide +kernel
theorem d_M_add_51 : decode b_M_add 51 = .ok (.iastore, 1) := by decide +kernel
theorem d_M_add_52 : decode b_M_add 52 = .ok (.aload_n 0, 1) := by decide +kernel
theorem d_M_add_53 : decode b_M_add 53 = .ok (.dup, 1) := by decide +kernel
theorem d_M_add_54 : decode b_M_add 54 = .ok (.getfield 75, 3) := by decide +kernel
theorem d_M_add_57 : decode b_M_add 57 = .ok (.iconst 1, 1) := by decide +kernel
theorem d_M_add_58 : decode b_M_add 58 = .ok (.iadd, 1) := by decide +kernel
theorem d_M_add_59 : decode b_M_add 59 = .ok (.putfield 75, 3) := by decide +kernel
theorem d_M_add_62 : decode b_M_add 62 = .ok (.return_, 1) := by decide +kernel
theorem d_M_arc_0 : decode b_M_arc 0 = .ok (.aload_n 0, 1) := by decide +kernel
theorem d_M_arc_1 : decode b_M_arc 1 = .ok (.iload_n 1, 1) := by decide +kernel
theorem d_M_arc_2 : decode b_M_arc 2 = .ok (.iload_n 2, 1) := by decide +kernel
theorem d_M_arc_3 : decode b_M_arc 3 = .ok (.invokevirtual 84, 3) := by decide +kernel
theorem d_M_arc_6 : decode b_M_arc 6 = .ok (.aload_n 0, 1) := by decide +kernel
theorem d_M_arc_7 : decode b_M_arc 7 = .ok (.iload_n 3, 1) := by decide +kernel
theorem d_M_arc_8 : decode b_M_arc 8 = .ok (.i2l, 1) := by decide +kernel
theorem d_M_arc_9 : decode b_M_arc 9 = .ok (.ldc2_w 92, 3) := by decide +kernel
theorem d_M_arc_12 : decode b_M_arc 12 = .ok (.ldc2_w 94, 3) := by decide +kernel
theorem d_M_arc_15 : decode b_M_arc 15 = .ok (.invokestatic 64, 3) := by decide +kernel
theorem d_M_arc_18 : decode b_M_arc 18 = .ok (.ifCond .eq 18, 3) := by decide +kernel
theorem d_M_arc_21 : decode b_M_arc 21 = .ok (.iload 4, 2) := by decide +kernel
theorem d_M_arc_23 : decode b_M_arc 23 = .ok (.i2l, 1) := by decide +kernel
theorem d_M_arc_24 : decode b_M_arc 24 = .ok (.ldc2_w 96, 3) := by decide +kernel
theorem d_M_arc_27 : decode b_M_arc 27 = .ok (.ldc2_w 98, 3) := by decide +kernel
theorem d_M_arc_30 : decode b_M_arc 30 = .ok (.invokestatic 64, 3) := by decide +kernel
theorem d_M_arc_33 : decode b_M_arc 33 = .ok (.ifCond .ne 7, 3) := by decide +kernel
theorem d_M_arc_36 : decode b_M_arc 36 = .ok (.iconst 1, 1) := by decide +kernel
theorem d_M_arc_37 : decode b_M_arc 37 = .ok (.goto 7, 3) := by decide +kernel
theorem d_M_arc_40 : decode b_M_arc 40 = .ok (.aload_n 0, 1) := by decide +kernel
theorem d_M_arc_41 : decode b_M_arc 41 = .ok (.getfield 58, 3) := by decide +kernel
theorem d_M_arc_44 : decode b_M_arc 44 = .ok (.putfield 58, 3) := by decide +kernel
theorem d_M_arc_47 : decode b_M_arc 47 = .ok (.aload_n 0, 1) := by decide +kernel
theorem d_M_arc_48 : decode b_M_arc 48 = .ok (.getfield 58, 3) := by decide +kernel
theorem d_M_arc_51 : decode b_M_arc 51 = .ok (.ifCond .le 5, 3) := by decide +kernel
theorem d_M_arc_54 : decode b_M_arc 54 = .ok (.iconst 0, 1) := by decide +kernel
theorem d_M_arc_55 : decode b_M_arc 55 = .ok (.ireturn, 1) := by decide +kernel
theorem d_M_arc_56 : decode b_M_arc 56 = .ok (.aload_n 0, 1) := by decide +kernel
theorem d_M_arc_57 : decode b_M_arc 57 = .ok (.invokevirtual 100, 3) := by decide +kernel
theorem d_M_arc_60 : decode b_M_arc 60 = .ok (.istore 6, 2) := by decide +kernel
theorem d_M_arc_62 : decode b_M_arc 62 = .ok (.iload 5, 2) := by decide +kernel
theorem d_M_arc_64 : decode b_M_arc 64 = .ok (.ifCond .eq 24, 3) := by decide +kernel
theorem d_M_arc_67 : decode b_M_arc 67 = .ok (.iload 6, 2) := by decide +kernel
theorem d_M_arc_69 : decode b_M_arc 69 = .ok (.iload 4, 2) := by decide +kernel
theorem d_M_arc_71 : decode b_M_arc 71 = .ok (.if_icmp .lt 13, 3) := by decide +kernel
theorem d_M_arc_74 : decode b_M_arc 74 = .ok (.iload_n 2, 1) := by decide +kernel
theorem d_M_arc_75 : decode b_M_arc 75 = .ok (.iload 4, 2) := by decide +kernel
theorem d_M_arc_77 : decode b_M_arc 77 = .ok (.if_icmp .lt 7, 3) := by decide +kernel
theorem d_M_arc_80 : decode b_M_arc 80 = .ok (.iconst 1, 1) := by decide +kernel
theorem d_M_arc_81 : decode b_M_arc 81 = .ok (.goto 25, 3) := by decide +kernel
theorem d_M_arc_84 : decode b_M_arc 84 = .ok (.iconst 0, 1) := by decide +kernel
theorem d_M_arc_85 : decode b_M_arc 85 = .ok (.goto 21, 3) := by decide +kernel
theorem d_M_arc_88 : decode b_M_arc 88 = .ok (.iload 6, 2) := by decide +kernel
theorem d_M_arc_90 : decode b_M_arc 90 = .ok (.iload 4, 2) := by decide +kernel
theorem d_M_arc_92 : decode b_M_arc 92 = .ok (.if_icmp .gt 13, 3) := by decide +kernel
theorem d_M_arc_95 : decode b_M_arc 95 = .ok (.iload_n 2, 1) := by decide +kernel
theorem d_M_arc_96 : decode b_M_arc 96 = .ok (.iload 4, 2) := by decide +kernel
theorem d_M_arc_98 : decode b_M_arc 98 = .ok (.if_icmp .gt 7, 3) := by decide +kernel
theorem d_M_arc_101 : decode b_M_arc 101 = .ok (.iconst 1, 1) := by decide +kernel
theorem d_M_arc_102 : decode b_M_arc 102 = .ok (.goto 4, 3) := by decide +kernel
theorem d_M_arc_105 : decode b_M_arc 105 = .ok (.iconst 0, 1) := by decide +kernel
theorem d_M_arc_106 : decode b_M_arc 106 = .ok (.istore 7, 2) := by decide +kernel
theorem d_M_arc_108 : decode b_M_arc 108 = .ok (.iload 7, 2) := by decide +kernel
theorem d_M_arc_110 : decode b_M_arc 110 = .ok (.ifCond .eq 26, 3) := by decide +kernel
theorem d_M_arc_113 : decode b_M_arc 113 = .ok (.aload_n 0, 1) := by decide +kernel
theorem d_M_arc_114 : decode b_M_arc 114 = .ok (.invokevirtual 80, 3) := by decide +kernel
theorem d_M_arc_117 : decode b_M_arc 117 = .ok (.iload 6, 2) := by decide +kernel
theorem d_M_arc_119 : decode b_M_arc 119 = .ok (.iload_n 3, 1) := by decide +kernel
theorem d_M_arc_120 : decode b_M_arc 120 = .ok (.iload 4, 2) := by decide +kernel
theorem d_M_arc_122 : decode b_M_arc 122 = .ok (.invokestatic 103, 3) := by decide +kernel
theorem d_M_arc_125 : decode b_M_arc 125 = .ok (.iload_n 1, 1) := by decide +kernel
theorem d_M_arc_126 : decode b_M_arc 126 = .ok (.iload_n 2, 1) := by decide +kernel
theorem d_M_arc_127 : decode b_M_arc 127 = .ok (.iload_n 3, 1) := by decide +kernel
theorem d_M_arc_128 : decode b_M_arc 128 = .ok (.iload 4, 2) := by decide +kernel
theorem d_M_arc_130 : decode b_M_arc 130 = .ok (.invokestatic 103, 3) := by decide +kernel
theorem d_M_arc_133 : decode b_M_arc 133 = .ok (.if_icmp .eq 5, 3) := by decide +kernel
theorem d_M_arc_136 : decode b_M_arc 136 = .ok (.iconst 0, 1) := by decide +kernel
theorem d_M_arc_137 : decode b_M_arc 137 = .ok (.ireturn, 1) := by decide +kernel
theorem d_M_arc_138 : decode b_M_arc 138 = .ok (.aload_n 0, 1) := by decide +kernel
theorem d_M_arc_139 : decode b_M_arc 139 = .ok (.iload_n 1, 1) := by decide +kernel
theorem d_M_arc_140 : decode b_M_arc 140 = .ok (.iload_n 2, 1) := by decide +kernel
theorem d_M_arc_141 : decode b_M_arc 141 = .ok (.iload 5, 2) := by decide +kernel
theorem d_M_arc_143 : decode b_M_arc 143 = .ok (.ifCond .eq 7, 3) := by decide +kernel
theorem d_M_arc_146 : decode b_M_arc 146 = .ok (.iconst 2, 1) := by decide +kernel
theorem d_M_arc_147 : decode b_M_arc 147 = .ok (.goto 4, 3) := by decide +kernel
theorem d_M_arc_150 : decode b_M_arc 150 = .ok (.iconst 1, 1) := by decide +kernel
theorem d_M_arc_151 : decode b_M_arc 151 = .ok (.iload_n 3, 1) := by decide +kernel
theorem d_M_arc_152 : decode b_M_arc 152 = .ok (.iload 4, 2) := by decide +kernel
theorem d_M_arc_154 : decode b_M_arc 154 = .ok (.invokevirtual 88, 3) := by decide +kernel
theorem d_M_arc_157 : decode b_M_arc 157 = .ok (.iconst 1, 1) := by decide +kernel
theorem d_M_arc_158 : decode b_M_arc 158 = .ok (.ireturn, 1) := by decide +kernel
theorem d_M_blank_0 : decode b_M_blank 0 = .ok (.iconst 0, 1) := by decide +kernel
theorem d_M_blank_1 : decode b_M_blank 1 = .ok (.istore_n 2, 1) := by decide +kernel
theorem d_M_blank_2 : decode b_M_blank 2 = .ok (.iconst 0, 1) := by decide +kernel
theorem d_M_blank_3 : decode b_M_blank 3 = .ok (.istore_n 3, 1) := by decide +kernel
theorem d_M_blank_4 : decode b_M_blank 4 = .ok (.iload_n 3, 1) := by decide +kernel
theorem d_M_blank_5 : decode b_M_blank 5 = .ok (.aload_n 0, 1) := by decide +kernel
theorem d_M_blank_6 : decode b_M_blank 6 = .ok (.getfield 25, 3) := by decide +kernel
theorem d_M_blank_9 : decode b_M_blank 9 = .ok (.iload_n 1, 1) := by decide +kernel
theorem d_M_blank_10 : decode b_M_blank 10 = .ok (.iaload, 1) := by decide +kernel
theorem d_M_blank_11 : decode b_M_blank 11 = .ok (.if_icmp .gt 40, 3) := by decide +kernel
theorem d_M_blank_14 : decode b_M_blank 14 = .ok (.aload_n 0, 1) := by decide +kernel
theorem d_M_blank_15 : decode b_M_blank 15 = .ok (.getfield 31, 3) := by decide +kernel
theorem d_M_blank_18 : decode b_M_blank 18 = .ok (.bipush 65, 2) := by decide +kernel
theorem d_M_blank_20 : decode b_M_blank 20 = .ok (.iload_n 1, 1) := by decide +kernel
theorem d_M_blank_21 : decode b_M_blank 21 = .ok (.imul, 1) := by decide +kernel
theorem d_M_blank_22 : decode b_M_blank 22 = .ok (.iload_n 3, 1) := by decide +kernel
theorem d_M_blank_23 : decode b_M_blank 23 = .ok (.iadd, 1) := by decide +kernel
theorem d_M_blank_24 : decode b_M_blank 24 = .ok (.iaload, 1) := by decide +kernel
theorem d_M_blank_25 : decode b_M_blank 25 = .ok (.iload_n 2, 1) := by decide +kernel
theorem d_M_blank_26 : decode b_M_blank 26 = .ok (.if_icmp .le 17, 3) := by decide +kernel
theorem d_M_blank_29 : decode b_M_blank 29 = .ok (.aload_n 0, 1) := by decide +kernel
theorem d_M_blank_30 : decode b_M_blank 30 = .ok (.getfield 31, 3) := by decide +kernel
theorem d_M_blank_33 : decode b_M_blank 33 = .ok (.bipush 65, 2) := by decide +kernel
theorem d_M_blank_35 : decode b_M_blank 35 = .ok (.iload_n 1, 1) := by decide +kernel
theorem d_M_blank_36 : decode b_M_blank 36 = .ok (.imul, 1) := by decide +kernel
theorem d_M_blank_37 : decode b_M_blank 37 = .ok (.iload_n 3, 1) := by decide +kernel
theorem d_M_blank_38 : decode b_M_blank 38 = .ok (.iadd, 1) := by decide +kernel
theorem d_M_blank_39 : decode b_M_blank 39 = .ok (.iaload, 1) := by decide +kernel
theorem d_M_blank_40 : decode b_M_blank 40 = .ok (.goto 4, 3) := by decide +kernel
theorem d_M_blank_43 : decode b_M_blank 43 = .ok (.iload_n 2, 1) := by decide +kernel
theorem d_M_blank_44 : decode b_M_blank 44 = .ok (.istore_n 2, 1) := by decide +kernel
theorem d_M_blank_45 : decode b_M_blank 45 = .ok (.iinc 3 1, 3) := by decide +kernel
theorem d_M_blank_48 : decode b_M_blank 48 = .ok (.goto (-44), 3) := by decide +kernel
theorem d_M_blank_51 : decode b_M_blank 51 = .ok (.iload_n 2, 1) := by decide +kernel
theorem d_M_blank_52 : decode b_M_blank 52 = .ok (.iconst 3, 1) := by decide +kernel
theorem d_M_blank_53 : decode b_M_blank 53 = .ok (.iadd, 1) := by decide +kernel
theorem d_M_blank_54 : decode b_M_blank 54 = .ok (.ireturn, 1) := by decide +kernel
theorem d_M_closes_0 : decode b_M_closes 0 = .ok (.aload_n 0, 1) := by decide +kernel
theorem d_M_closes_1 : decode b_M_closes 1 = .ok (.iload_n 1, 1) := by decide +kernel
theorem d_M_closes_2 : decode b_M_closes 2 = .ok (.i2l, 1) := by decide +kernel
theorem d_M_closes_3 : decode b_M_closes 3 = .ok (.lconst 0, 1) := by decide +kernel
theorem d_M_closes_4 : decode b_M_closes 4 = .ok (.aload_n 0, 1) := by decide +kernel
theorem d_M_closes_5 : decode b_M_closes 5 = .ok (.getfield 160, 3) := by decide +kernel
theorem d_M_closes_8 : decode b_M_closes 8 = .ok (.iconst 1, 1) := by decide +kernel
theorem d_M_closes_9 : decode b_M_closes 9 = .ok (.isub, 1) := by decide +kernel
theorem d_M_closes_10 : decode b_M_closes 10 = .ok (.i2l, 1) := by decide +kernel
theorem d_M_closes_11 : decode b_M_closes 11 = .ok (.invokestatic 64, 3) := by decide +kernel
theorem d_M_closes_14 : decode b_M_closes 14 = .ok (.ifCond .eq 7, 3) := by decide +kernel
theorem d_M_closes_17 : decode b_M_closes 17 = .ok (.iconst 0, 1) := by decide +kernel
theorem d_M_closes_18 : decode b_M_closes 18 = .ok (.goto 4, 3) := by decide +kernel
theorem d_M_closes_21 : decode b_M_closes 21 = .ok (.iconst 1, 1) := by decide +kernel
theorem d_M_closes_22 : decode b_M_closes 22 = .ok (.putfield 58, 3) := by decide +kernel
theorem d_M_closes_25 : decode b_M_closes 25 = .ok (.aload_n 0, 1) := by decide +kernel
theorem d_M_closes_26 : decode b_M_closes 26 = .ok (.getfield 58, 3) := by decide +kernel
theorem d_M_closes_29 : decode b_M_closes 29 = .ok (.ifCond .ne 17, 3) := by decide +kernel
theorem d_M_closes_32 : decode b_M_closes 32 = .ok (.aload_n 0, 1) := by decide +kernel
theorem d_M_closes_33 : decode b_M_closes 33 = .ok (.iload_n 1, 1) := by decide +kernel
theorem d_M_closes_34 : decode b_M_closes 34 = .ok (.invokevirtual 171, 3) := by decide +kernel
theorem d_M_closes_37 : decode b_M_closes 37 = .ok (.lconst 0, 1) := by decide +kernel
theorem d_M_closes_38 : decode b_M_closes 38 = .ok (.lcmp, 1) := by decide +kernel
theorem d_M_closes_39 : decode b_M_closes 39 = .ok (.ifCond .ne 7, 3) := by decide +kernel
theorem d_M_closes_42 : decode b_M_closes 42 = .ok (.iconst 1, 1) := by decide +kernel
theorem d_M_closes_43 : decode b_M_closes 43 = .ok (.goto 4, 3) := by decide +kernel
theorem d_M_closes_46 : decode b_M_closes 46 = .ok (.iconst 0, 1) := by decide +kernel
theorem d_M_closes_47 : decode b_M_closes 47 = .ok (.ireturn, 1) := by decide +kernel
theorem d_M_copy_0 : decode b_M_copy 0 = .ok (.aload_n 0, 1) := by decide +kernel
theorem d_M_copy_1 : decode b_M_copy 1 = .ok (.aload_n 0, 1) := by decide +kernel
theorem d_M_copy_2 : decode b_M_copy 2 = .ok (.iload_n 1, 1) := by decide +kernel
theorem d_M_copy_3 : decode b_M_copy 3 = .ok (.invokevirtual 117, 3) := by decide +kernel
theorem d_M_copy_6 : decode b_M_copy 6 = .ok (.ifCond .eq 15, 3) := by decide +kernel
theorem d_M_copy_9 : decode b_M_copy 9 = .ok (.aload_n 0, 1) := by decide +kernel
theorem d_M_copy_10 : decode b_M_copy 10 = .ok (.iload_n 2, 1) := by decide +kernel
theorem d_M_copy_11 : decode b_M_copy 11 = .ok (.invokevirtual 117, 3) := by decide +kernel
theorem d_M_copy_14 : decode b_M_copy 14 = .ok (.ifCond .eq 7, 3) := by decide +kernel
theorem d_M_copy_17 : decode b_M_copy 17 = .ok (.iconst 0, 1) := by decide +kernel
theorem d_M_copy_18 : decode b_M_copy 18 = .ok (.goto 4, 3) := by decide +kernel
theorem d_M_copy_21 : decode b_M_copy 21 = .ok (.iconst 1, 1) := by decide +kernel
theorem d_M_copy_22 : decode b_M_copy 22 = .ok (.putfield 58, 3) := by decide +kernel
theorem d_M_copy_25 : decode b_M_copy 25 = .ok (.iconst 0, 1) := by decide +kernel
theorem d_M_copy_26 : decode b_M_copy 26 = .ok (.istore_n 3, 1) := by decide +kernel
theorem d_M_copy_27 : decode b_M_copy 27 = .ok (.iconst 0, 1) := by decide +kernel
theorem d_M_copy_28 : decode b_M_copy 28 = .ok (.istore 4, 2) := by decide +kernel
theorem d_M_copy_30 : decode b_M_copy 30 = .ok (.aload_n 0, 1) := by decide +kernel
theorem d_M_copy_31 : decode b_M_copy 31 = .ok (.getfield 58, 3) := by decide +kernel
theorem d_M_copy_34 : decode b_M_copy 34 = .ok (.ifCond .ne 86, 3) := by decide +kernel
theorem d_M_copy_37 : decode b_M_copy 37 = .ok (.iload 4, 2) := by decide +kernel
theorem d_M_copy_39 : decode b_M_copy 39 = .ok (.aload_n 0, 1) := by decide +kernel
theorem d_M_copy_40 : decode b_M_copy 40 = .ok (.getfield 25, 3) := by decide +kernel
theorem d_M_copy_43 : decode b_M_copy 43 = .ok (.iload_n 1, 1) := by decide +kernel
theorem d_M_copy_44 : decode b_M_copy 44 = .ok (.iaload, 1) := by decide +kernel
theorem d_M_copy_45 : decode b_M_copy 45 = .ok (.if_icmp .gt 75, 3) := by decide +kernel
theorem d_M_copy_48 : decode b_M_copy 48 = .ok (.iload 4, 2) := by decide +kernel
theorem d_M_copy_50 : decode b_M_copy 50 = .ok (.aload_n 0, 1) := by decide +kernel
theorem d_M_copy_51 : decode b_M_copy 51 = .ok (.getfield 25, 3) := by decide +kernel
theorem d_M_copy_54 : decode b_M_copy 54 = .ok (.iload_n 2, 1) := by decide +kernel
theorem d_M_copy_55 : decode b_M_copy 55 = .ok (.iaload, 1) := by decide +kernel
theorem d_M_copy_56 : decode b_M_copy 56 = .ok (.if_icmp .gt 64, 3) := by decide +kernel
theorem d_M_copy_59 : decode b_M_copy 59 = .ok (.aload_n 0, 1) := by decide +kernel
theorem d_M_copy_60 : decode b_M_copy 60 = .ok (.getfield 31, 3) := by decide +kernel
theorem d_M_copy_63 : decode b_M_copy 63 = .ok (.bipush 65, 2) := by decide +kernel
theorem d_M_copy_65 : decode b_M_copy 65 = .ok (.iload_n 1, 1) := by decide +kernel
theorem d_M_copy_66 : decode b_M_copy 66 = .ok (.imul, 1) := by decide +kernel
theorem d_M_copy_67 : decode b_M_copy 67 = .ok (.iload 4, 2) := by decide +kernel
theorem d_M_copy_69 : decode b_M_copy 69 = .ok (.iadd, 1) := by decide +kernel
theorem d_M_copy_70 : decode b_M_copy 70 = .ok (.iaload, 1) := by decide +kernel
theorem d_M_copy_71 : decode b_M_copy 71 = .ok (.aload_n 0, 1) := by decide +kernel
theorem d_M_copy_72 : decode b_M_copy 72 = .ok (.getfield 31, 3) := by decide +kernel
theorem d_M_copy_75 : decode b_M_copy 75 = .ok (.bipush 65, 2) := by decide +kernel
theorem d_M_copy_77 : decode b_M_copy 77 = .ok (.iload_n 2, 1) := by decide +kernel
theorem d_M_copy_78 : decode b_M_copy 78 = .ok (.imul, 1) := by decide +kernel
theorem d_M_copy_79 : decode b_M_copy 79 = .ok (.iload 4, 2) := by decide +kernel
theorem d_M_copy_81 : decode b_M_copy 81 = .ok (.iadd, 1) := by decide +kernel
theorem d_M_copy_82 : decode b_M_copy 82 = .ok (.iaload, 1) := by decide +kernel
theorem d_M_copy_83 : decode b_M_copy 83 = .ok (.isub, 1) := by decide +kernel
theorem d_M_copy_84 : decode b_M_copy 84 = .ok (.istore 5, 2) := by decide +kernel
theorem d_M_copy_86 : decode b_M_copy 86 = .ok (.iload 5, 2) := by decide +kernel
theorem d_M_copy_88 : decode b_M_copy 88 = .ok (.ifCond .ge 9, 3) := by decide +kernel
theorem d_M_copy_91 : decode b_M_copy 91 = .ok (.iload 5, 2) := by decide +kernel
theorem d_M_copy_93 : decode b_M_copy 93 = .ok (.ineg, 1) := by decide +kernel
theorem d_M_copy_94 : decode b_M_copy 94 = .ok (.goto 5, 3) := by decide +kernel
theorem d_M_copy_97 : decode b_M_copy 97 = .ok (.iload 5, 2) := by decide +kernel
theorem d_M_copy_99 : decode b_M_copy 99 = .ok (.istore 5, 2) := by decide +kernel
theorem d_M_copy_101 : decode b_M_copy 101 = .ok (.iload 5, 2) := by decide +kernel
theorem d_M_copy_103 : decode b_M_copy 103 = .ok (.iload_n 3, 1) := by decide +kernel
theorem d_M_copy_104 : decode b_M_copy 104 = .ok (.if_icmp .le 8, 3) := by decide +kernel
theorem d_M_copy_107 : decode b_M_copy 107 = .ok (.iload 5, 2) := by decide +kernel
theorem d_M_copy_109 : decode b_M_copy 109 = .ok (.goto 4, 3) := by decide +kernel
theorem d_M_copy_112 : decode b_M_copy 112 = .ok (.iload_n 3, 1) := by decide +kernel
theorem d_M_copy_113 : decode b_M_copy 113 = .ok (.istore_n 3, 1) := by decide +kernel
theorem d_M_copy_114 : decode b_M_copy 114 = .ok (.iinc 4 1, 3) := by decide +kernel
theorem d_M_copy_117 : decode b_M_copy 117 = .ok (.goto (-87), 3) := by decide +kernel
theorem d_M_copy_120 : decode b_M_copy 120 = .ok (.iload_n 3, 1) := by decide +kernel
theorem d_M_copy_121 : decode b_M_copy 121 = .ok (.ireturn, 1) := by decide +kernel
theorem d_M_cut_0 : decode b_M_cut 0 = .ok (.aload_n 0, 1) := by decide +kernel
theorem d_M_cut_1 : decode b_M_cut 1 = .ok (.iload_n 1, 1) := by decide +kernel
theorem d_M_cut_2 : decode b_M_cut 2 = .ok (.iload_n 2, 1) := by decide +kernel
theorem d_M_cut_3 : decode b_M_cut 3 = .ok (.iload_n 3, 1) := by decide +kernel
theorem d_M_cut_4 : decode b_M_cut 4 = .ok (.iload 4, 2) := by decide +kernel
theorem d_M_cut_6 : decode b_M_cut 6 = .ok (.invokevirtual 142, 3) := by decide +kernel
theorem d_M_cut_9 : decode b_M_cut 9 = .ok (.aload_n 0, 1) := by decide +kernel
theorem d_M_cut_10 : decode b_M_cut 10 = .ok (.aload_n 0, 1) := by decide +kernel
theorem d_M_cut_11 : decode b_M_cut 11 = .ok (.getfield 58, 3) := by decide +kernel
theorem d_M_cut_14 : decode b_M_cut 14 = .ok (.ifCond .ne 13, 3) := by decide +kernel
theorem d_M_cut_17 : decode b_M_cut 17 = .ok (.iload 5, 2) := by decide +kernel
theorem d_M_cut_19 : decode b_M_cut 19 = .ok (.iconst 1, 1) := by decide +kernel
theorem d_M_cut_20 : decode b_M_cut 20 = .ok (.if_icmp .ge 7, 3) := by decide +kernel
theorem d_M_cut_23 : decode b_M_cut 23 = .ok (.iconst 2, 1) := by decide +kernel
theorem d_M_cut_24 : decode b_M_cut 24 = .ok (.goto 7, 3) := by decide +kernel
theorem d_M_cut_27 : decode b_M_cut 27 = .ok (.aload_n 0, 1) := by decide +kernel
theorem d_M_cut_28 : decode b_M_cut 28 = .ok (.getfield 58, 3) := by decide +kernel
theorem d_M_cut_31 : decode b_M_cut 31 = .ok (.putfield 58, 3) := by decide +kernel
theorem d_M_cut_34 : decode b_M_cut 34 = .ok (.aload_n 0, 1) := by decide +kernel
theorem d_M_cut_35 : decode b_M_cut 35 = .ok (.getfield 58, 3) := by decide +kernel
theorem d_M_cut_38 : decode b_M_cut 38 = .ok (.ifCond .le 5, 3) := by decide +kernel
theorem d_M_cut_41 : decode b_M_cut 41 = .ok (.iconst 0, 1) := by decide +kernel
theorem d_M_cut_42 : decode b_M_cut 42 = .ok (.ireturn, 1) := by decide +kernel
theorem d_M_cut_43 : decode b_M_cut 43 = .ok (.aload_n 0, 1) := by decide +kernel
theorem d_M_cut_44 : decode b_M_cut 44 = .ok (.iload_n 1, 1) := by decide +kernel
theorem d_M_cut_45 : decode b_M_cut 45 = .ok (.iload_n 2, 1) := by decide +kernel
theorem d_M_cut_46 : decode b_M_cut 46 = .ok (.invokevirtual 135, 3) := by decide +kernel
theorem d_M_cut_49 : decode b_M_cut 49 = .ok (.aload_n 0, 1) := by decide +kernel
theorem d_M_cut_50 : decode b_M_cut 50 = .ok (.iload_n 1, 1) := by decide +kernel
theorem d_M_cut_51 : decode b_M_cut 51 = .ok (.iload 4, 2) := by decide +kernel
theorem d_M_cut_53 : decode b_M_cut 53 = .ok (.aload_n 0, 1) := by decide +kernel
theorem d_M_cut_54 : decode b_M_cut 54 = .ok (.iload_n 1, 1) := by decide +kernel
theorem d_M_cut_55 : decode b_M_cut 55 = .ok (.invokevirtual 127, 3) := by decide +kernel
theorem d_M_cut_58 : decode b_M_cut 58 = .ok (.i2l, 1) := by decide +kernel
theorem d_M_cut_59 : decode b_M_cut 59 = .ok (.iload 5, 2) := by decide +kernel
theorem d_M_cut_61 : decode b_M_cut 61 = .ok (.i2l, 1) := by decide +kernel
theorem d_M_cut_62 : decode b_M_cut 62 = .ok (.lconst 1, 1) := by decide +kernel
theorem d_M_cut_63 : decode b_M_cut 63 = .ok (.lsub, 1) := by decide +kernel
theorem d_M_cut_64 : decode b_M_cut 64 = .ok (.iload_n 3, 1) := by decide +kernel
theorem d_M_cut_65 : decode b_M_cut 65 = .ok (.i2l, 1) := by decide +kernel
theorem d_M_cut_66 : decode b_M_cut 66 = .ok (.lmul, 1) := by decide +kernel
theorem d_M_cut_67 : decode b_M_cut 67 = .ok (.lsub, 1) := by decide +kernel
theorem d_M_cut_68 : decode b_M_cut 68 = .ok (.invokevirtual 146, 3) := by decide +kernel
theorem d_M_cut_71 : decode b_M_cut 71 = .ok (.ireturn, 1) := by decide +kernel
theorem d_M_flute_0 : decode b_M_flute 0 = .ok (.aload_n 0, 1) := by decide +kernel
theorem d_M_flute_1 : decode b_M_flute 1 = .ok (.iload_n 3, 1) := by decide +kernel
theorem d_M_flute_2 : decode b_M_flute 2 = .ok (.i2l, 1) := by decide +kernel
theorem d_M_flute_3 : decode b_M_flute 3 = .ok (.lconst 0, 1) := by decide +kernel
theorem d_M_flute_4 : decode b_M_flute 4 = .ok (.lconst 1, 1) := by decide +kernel
theorem d_M_flute_5 : decode b_M_flute 5 = .ok (.invokestatic 64, 3) := by decide +kernel
theorem d_M_flute_8 : decode b_M_flute 8 = .ok (.ifCond .ne 7, 3) := by decide +kernel
theorem d_M_flute_11 : decode b_M_flute 11 = .ok (.iconst 1, 1) := by decide +kernel
theorem d_M_flute_12 : decode b_M_flute 12 = .ok (.goto 33, 3) := by decide +kernel
theorem d_M_flute_15 : decode b_M_flute 15 = .ok (.iload_n 1, 1) := by decide +kernel
theorem d_M_flute_16 : decode b_M_flute 16 = .ok (.i2l, 1) := by decide +kernel
theorem d_M_flute_17 : decode b_M_flute 17 = .ok (.lconst 1, 1) := by decide +kernel
theorem d_M_flute_18 : decode b_M_flute 18 = .ok (.ldc2_w 177, 3) := by decide +kernel
theorem d_M_flute_21 : decode b_M_flute 21 = .ok (.invokestatic 64, 3) := by decide +kernel
theorem d_M_flute_24 : decode b_M_flute 24 = .ok (.ifCond .eq 16, 3) := by decide +kernel
theorem d_M_flute_27 : decode b_M_flute 27 = .ok (.iload_n 2, 1) := by decide +kernel
theorem d_M_flute_28 : decode b_M_flute 28 = .ok (.i2l, 1) := by decide +kernel
theorem d_M_flute_29 : decode b_M_flute 29 = .ok (.lconst 0, 1) := by decide +kernel
theorem d_M_flute_30 : decode b_M_flute 30 = .ok (.iload_n 1, 1) := by decide +kernel
theorem d_M_flute_31 : decode b_M_flute 31 = .ok (.iconst 1, 1) := by decide +kernel
theorem d_M_flute_32 : decode b_M_flute 32 = .ok (.isub, 1) := by decide +kernel
theorem d_M_flute_33 : decode b_M_flute 33 = .ok (.i2l, 1) := by decide +kernel
theorem d_M_flute_34 : decode b_M_flute 34 = .ok (.invokestatic 64, 3) := by decide +kernel
theorem d_M_flute_37 : decode b_M_flute 37 = .ok (.ifCond .ne 7, 3) := by decide +kernel
theorem d_M_flute_40 : decode b_M_flute 40 = .ok (.iconst 2, 1) := by decide +kernel
theorem d_M_flute_41 : decode b_M_flute 41 = .ok (.goto 4, 3) := by decide +kernel
theorem d_M_flute_44 : decode b_M_flute 44 = .ok (.iconst 0, 1) := by decide +kernel
theorem d_M_flute_45 : decode b_M_flute 45 = .ok (.putfield 58, 3) := by decide +kernel
theorem d_M_flute_48 : decode b_M_flute 48 = .ok (.aload_n 0, 1) := by decide +kernel
theorem d_M_flute_49 : decode b_M_flute 49 = .ok (.getfield 58, 3) := by decide +kernel
theorem d_M_flute_52 : decode b_M_flute 52 = .ok (.ifCond .le 7, 3) := by decide +kernel
theorem d_M_flute_55 : decode b_M_flute 55 = .ok (.lconst 0, 1) := by decide +kernel
theorem d_M_flute_56 : decode b_M_flute 56 = .ok (.goto 15, 3) := by decide +kernel
theorem d_M_flute_59 : decode b_M_flute 59 = .ok (.ldc2_w 179, 3) := by decide +kernel
theorem d_M_flute_62 : decode b_M_flute 62 = .ok (.iload_n 2, 1) := by decide +kernel
theorem d_M_flute_63 : decode b_M_flute 63 = .ok (.i2l, 1) := by decide +kernel
theorem d_M_flute_64 : decode b_M_flute 64 = .ok (.lmul, 1) := by decide +kernel
theorem d_M_flute_65 : decode b_M_flute 65 = .ok (.iload_n 1, 1) := by decide +kernel
theorem d_M_flute_66 : decode b_M_flute 66 = .ok (.i2l, 1) := by decide +kernel
theorem d_M_flute_67 : decode b_M_flute 67 = .ok (.iload_n 3, 1) := by decide +kernel
theorem d_M_flute_68 : decode b_M_flute 68 = .ok (.invokestatic 165, 3) := by decide +kernel
theorem d_M_flute_71 : decode b_M_flute 71 = .ok (.lreturn, 1) := by decide +kernel
theorem d_M_gap_0 : decode b_M_gap 0 = .ok (.aload_n 0, 1) := by decide +kernel
theorem d_M_gap_1 : decode b_M_gap 1 = .ok (.iload_n 1, 1) := by decide +kernel
theorem d_M_gap_2 : decode b_M_gap 2 = .ok (.i2l, 1) := by decide +kernel
theorem d_M_gap_3 : decode b_M_gap 3 = .ok (.lconst 0, 1) := by decide +kernel
theorem d_M_gap_4 : decode b_M_gap 4 = .ok (.aload_n 0, 1) := by decide +kernel
theorem d_M_gap_5 : decode b_M_gap 5 = .ok (.getfield 160, 3) := by decide +kernel
theorem d_M_gap_8 : decode b_M_gap 8 = .ok (.iconst 1, 1) := by decide +kernel
theorem d_M_gap_9 : decode b_M_gap 9 = .ok (.isub, 1) := by decide +kernel
theorem d_M_gap_10 : decode b_M_gap 10 = .ok (.i2l, 1) := by decide +kernel
theorem d_M_gap_11 : decode b_M_gap 11 = .ok (.invokestatic 64, 3) := by decide +kernel
theorem d_M_gap_14 : decode b_M_gap 14 = .ok (.ifCond .eq 17, 3) := by decide +kernel
theorem d_M_gap_17 : decode b_M_gap 17 = .ok (.iload_n 2, 1) := by decide +kernel
theorem d_M_gap_18 : decode b_M_gap 18 = .ok (.i2l, 1) := by decide +kernel
theorem d_M_gap_19 : decode b_M_gap 19 = .ok (.lconst 0, 1) := by decide +kernel
theorem d_M_gap_20 : decode b_M_gap 20 = .ok (.lconst 1, 1) := by decide +kernel
theorem d_M_gap_21 : decode b_M_gap 21 = .ok (.invokestatic 64, 3) := by decide +kernel
theorem d_M_gap_24 : decode b_M_gap 24 = .ok (.ifCond .eq 7, 3) := by decide +kernel
theorem d_M_gap_27 : decode b_M_gap 27 = .ok (.iconst 0, 1) := by decide +kernel
theorem d_M_gap_28 : decode b_M_gap 28 = .ok (.goto 4, 3) := by decide +kernel
theorem d_M_gap_31 : decode b_M_gap 31 = .ok (.iconst 1, 1) := by decide +kernel
theorem d_M_gap_32 : decode b_M_gap 32 = .ok (.putfield 58, 3) := by decide +kernel
theorem d_M_gap_35 : decode b_M_gap 35 = .ok (.aload_n 0, 1) := by decide +kernel
theorem d_M_gap_36 : decode b_M_gap 36 = .ok (.getfield 58, 3) := by decide +kernel
theorem d_M_gap_39 : decode b_M_gap 39 = .ok (.ifCond .le 7, 3) := by decide +kernel
theorem d_M_gap_42 : decode b_M_gap 42 = .ok (.lconst 0, 1) := by decide +kernel
theorem d_M_gap_43 : decode b_M_gap 43 = .ok (.goto 15, 3) := by decide +kernel
theorem d_M_gap_46 : decode b_M_gap 46 = .ok (.aload_n 0, 1) := by decide +kernel
theorem d_M_gap_47 : decode b_M_gap 47 = .ok (.iload_n 1, 1) := by decide +kernel
theorem d_M_gap_48 : decode b_M_gap 48 = .ok (.invokevirtual 171, 3) := by decide +kernel
theorem d_M_gap_51 : decode b_M_gap 51 = .ok (.ldc2_w 175, 3) := by decide +kernel
theorem d_M_gap_54 : decode b_M_gap 54 = .ok (.iload_n 2, 1) := by decide +kernel
theorem d_M_gap_55 : decode b_M_gap 55 = .ok (.invokestatic 165, 3) := by decide +kernel
theorem d_M_gap_58 : decode b_M_gap 58 = .ok (.lreturn, 1) := by decide +kernel
theorem d_M_gapOf_0 : decode b_M_gapOf 0 = .ok (.ldc2_w 169, 3) := by decide +kernel
theorem d_M_gapOf_3 : decode b_M_gapOf 3 = .ok (.lstore_n 2, 1) := by decide +kernel
theorem d_M_gapOf_4 : decode b_M_gapOf 4 = .ok (.iconst 0, 1) := by decide +kernel
theorem d_M_gapOf_5 : decode b_M_gapOf 5 = .ok (.istore 4, 2) := by decide +kernel
theorem d_M_gapOf_7 : decode b_M_gapOf 7 = .ok (.iload 4, 2) := by decide +kernel
theorem d_M_gapOf_9 : decode b_M_gapOf 9 = .ok (.aload_n 0, 1) := by decide +kernel
theorem d_M_gapOf_10 : decode b_M_gapOf 10 = .ok (.getfield 43, 3) := by decide +kernel
theorem d_M_gapOf_13 : decode b_M_gapOf 13 = .ok (.iload_n 1, 1) := by decide +kernel
theorem d_M_gapOf_14 : decode b_M_gapOf 14 = .ok (.iaload, 1) := by decide +kernel
theorem d_M_gapOf_15 : decode b_M_gapOf 15 = .ok (.if_icmp .ge 43, 3) := by decide +kernel
theorem d_M_gapOf_18 : decode b_M_gapOf 18 = .ok (.lload_n 2, 1) := by decide +kernel
theorem d_M_gapOf_19 : decode b_M_gapOf 19 = .ok (.aload_n 0, 1) := by decide +kernel
theorem d_M_gapOf_20 : decode b_M_gapOf 20 = .ok (.getfield 46, 3) := by decide +kernel
theorem d_M_gapOf_23 : decode b_M_gapOf 23 = .ok (.bipush 16, 2) := by decide +kernel
theorem d_M_gapOf_25 : decode b_M_gapOf 25 = .ok (.iload_n 1, 1) := by decide +kernel
theorem d_M_gapOf_26 : decode b_M_gapOf 26 = .ok (.imul, 1) := by decide +kernel
theorem d_M_gapOf_27 : decode b_M_gapOf 27 = .ok (.iload 4, 2) := by decide +kernel
theorem d_M_gapOf_29 : decode b_M_gapOf 29 = .ok (.iadd, 1) := by decide +kernel
theorem d_M_gapOf_30 : decode b_M_gapOf 30 = .ok (.iaload, 1) := by decide +kernel
theorem d_M_gapOf_31 : decode b_M_gapOf 31 = .ok (.i2l, 1) := by decide +kernel
theorem d_M_gapOf_32 : decode b_M_gapOf 32 = .ok (.sipush 27720, 3) := by decide +kernel
theorem d_M_gapOf_35 : decode b_M_gapOf 35 = .ok (.aload_n 0, 1) := by decide +kernel
theorem d_M_gapOf_36 : decode b_M_gapOf 36 = .ok (.getfield 49, 3) := by decide +kernel
theorem d_M_gapOf_39 : decode b_M_gapOf 39 = .ok (.bipush 16, 2) := by decide +kernel
theorem d_M_gapOf_41 : decode b_M_gapOf 41 = .ok (.iload_n 1, 1) := by decide +kernel
theorem d_M_gapOf_42 : decode b_M_gapOf 42 = .ok (.imul, 1) := by decide +kernel
theorem d_M_gapOf_43 : decode b_M_gapOf 43 = .ok (.iload 4, 2) := by decide +kernel
theorem d_M_gapOf_45 : decode b_M_gapOf 45 = .ok (.iadd, 1) := by decide +kernel
theorem d_M_gapOf_46 : decode b_M_gapOf 46 = .ok (.iaload, 1) := by decide +kernel
theorem d_M_gapOf_47 : decode b_M_gapOf 47 = .ok (.idiv, 1) := by decide +kernel
theorem d_M_gapOf_48 : decode b_M_gapOf 48 = .ok (.i2l, 1) := by decide +kernel
theorem d_M_gapOf_49 : decode b_M_gapOf 49 = .ok (.lmul, 1) := by decide +kernel
theorem d_M_gapOf_50 : decode b_M_gapOf 50 = .ok (.lsub, 1) := by decide +kernel
theorem d_M_gapOf_51 : decode b_M_gapOf 51 = .ok (.lstore_n 2, 1) := by decide +kernel
theorem d_M_gapOf_52 : decode b_M_gapOf 52 = .ok (.iinc 4 1, 3) := by decide +kernel
theorem d_M_gapOf_55 : decode b_M_gapOf 55 = .ok (.goto (-48), 3) := by decide +kernel
theorem d_M_gapOf_58 : decode b_M_gapOf 58 = .ok (.lload_n 2, 1) := by decide +kernel
theorem d_M_gapOf_59 : decode b_M_gapOf 59 = .ok (.lreturn, 1) := by decide +kernel
theorem d_M_hasPlace_0 : decode b_M_hasPlace 0 = .ok (.aload_n 0, 1) := by decide +kernel
theorem d_M_hasPlace_1 : decode b_M_hasPlace 1 = .ok (.iload_n 1, 1) := by decide +kernel
theorem d_M_hasPlace_2 : decode b_M_hasPlace 2 = .ok (.invokevirtual 117, 3) := by decide +kernel
theorem d_M_hasPlace_5 : decode b_M_hasPlace 5 = .ok (.ifCond .eq 23, 3) := by decide +kernel
theorem d_M_hasPlace_8 : decode b_M_hasPlace 8 = .ok (.iload_n 2, 1) := by decide +kernel
theorem d_M_hasPlace_9 : decode b_M_hasPlace 9 = .ok (.i2l, 1) := by decide +kernel
theorem d_M_hasPlace_10 : decode b_M_hasPlace 10 = .ok (.lconst 0, 1) := by decide +kernel
theorem d_M_hasPlace_11 : decode b_M_hasPlace 11 = .ok (.aload_n 0, 1) := by decide +kernel
theorem d_M_hasPlace_12 : decode b_M_hasPlace 12 = .ok (.getfield 25, 3) := by decide +kernel
theorem d_M_hasPlace_15 : decode b_M_hasPlace 15 = .ok (.iload_n 1, 1) := by decide +kernel
theorem d_M_hasPlace_16 : decode b_M_hasPlace 16 = .ok (.iaload, 1) := by decide +kernel
theorem d_M_hasPlace_17 : decode b_M_hasPlace 17 = .ok (.i2l, 1) := by decide +kernel
theorem d_M_hasPlace_18 : decode b_M_hasPlace 18 = .ok (.invokestatic 64, 3) := by decide +kernel
theorem d_M_hasPlace_21 : decode b_M_hasPlace 21 = .ok (.ifCond .eq 7, 3) := by decide +kernel
theorem d_M_hasPlace_24 : decode b_M_hasPlace 24 = .ok (.iconst 1, 1) := by decide +kernel
theorem d_M_hasPlace_25 : decode b_M_hasPlace 25 = .ok (.goto 4, 3) := by decide +kernel
theorem d_M_hasPlace_28 : decode b_M_hasPlace 28 = .ok (.iconst 0, 1) := by decide +kernel
theorem d_M_hasPlace_29 : decode b_M_hasPlace 29 = .ok (.ireturn, 1) := by decide +kernel
theorem d_M_hollow_0 : decode b_M_hollow 0 = .ok (.aload_n 0, 1) := by decide +kernel
theorem d_M_hollow_1 : decode b_M_hollow 1 = .ok (.aload_n 0, 1) := by decide +kernel
theorem d_M_hollow_2 : decode b_M_hollow 2 = .ok (.iload_n 1, 1) := by decide +kernel
theorem d_M_hollow_3 : decode b_M_hollow 3 = .ok (.invokevirtual 117, 3) := by decide +kernel
theorem d_M_hollow_6 : decode b_M_hollow 6 = .ok (.ifCond .ne 7, 3) := by decide +kernel
theorem d_M_hollow_9 : decode b_M_hollow 9 = .ok (.iconst 1, 1) := by decide +kernel
theorem d_M_hollow_10 : decode b_M_hollow 10 = .ok (.goto 32, 3) := by decide +kernel
theorem d_M_hollow_13 : decode b_M_hollow 13 = .ok (.iload_n 2, 1) := by decide +kernel
theorem d_M_hollow_14 : decode b_M_hollow 14 = .ok (.i2l, 1) := by decide +kernel
theorem d_M_hollow_15 : decode b_M_hollow 15 = .ok (.lconst 1, 1) := by decide +kernel
theorem d_M_hollow_16 : decode b_M_hollow 16 = .ok (.ldc2_w 138, 3) := by decide +kernel
theorem d_M_hollow_19 : decode b_M_hollow 19 = .ok (.invokestatic 64, 3) := by decide +kernel
theorem d_M_hollow_22 : decode b_M_hollow 22 = .ok (.ifCond .eq 15, 3) := by decide +kernel
theorem d_M_hollow_25 : decode b_M_hollow 25 = .ok (.iload_n 3, 1) := by decide +kernel
theorem d_M_hollow_26 : decode b_M_hollow 26 = .ok (.i2l, 1) := by decide +kernel
theorem d_M_hollow_27 : decode b_M_hollow 27 = .ok (.lconst 0, 1) := by decide +kernel
theorem d_M_hollow_28 : decode b_M_hollow 28 = .ok (.ldc2_w 138, 3) := by decide +kernel
theorem d_M_hollow_31 : decode b_M_hollow 31 = .ok (.invokestatic 64, 3) := by decide +kernel
theorem d_M_hollow_34 : decode b_M_hollow 34 = .ok (.ifCond .ne 7, 3) := by decide +kernel
theorem d_M_hollow_37 : decode b_M_hollow 37 = .ok (.iconst 2, 1) := by decide +kernel
theorem d_M_hollow_38 : decode b_M_hollow 38 = .ok (.goto 4, 3) := by decide +kernel
theorem d_M_hollow_41 : decode b_M_hollow 41 = .ok (.iconst 0, 1) := by decide +kernel
theorem d_M_hollow_42 : decode b_M_hollow 42 = .ok (.putfield 58, 3) := by decide +kernel
theorem d_M_hollow_45 : decode b_M_hollow 45 = .ok (.aload_n 0, 1) := by decide +kernel
theorem d_M_hollow_46 : decode b_M_hollow 46 = .ok (.getfield 58, 3) := by decide +kernel
theorem d_M_hollow_49 : decode b_M_hollow 49 = .ok (.ifCond .le 5, 3) := by decide +kernel
theorem d_M_hollow_52 : decode b_M_hollow 52 = .ok (.iconst 0, 1) := by decide +kernel
theorem d_M_hollow_53 : decode b_M_hollow 53 = .ok (.ireturn, 1) := by decide +kernel
theorem d_M_hollow_54 : decode b_M_hollow 54 = .ok (.iconst 0, 1) := by decide +kernel
theorem d_M_hollow_55 : decode b_M_hollow 55 = .ok (.istore 4, 2) := by decide +kernel
theorem d_M_hollow_57 : decode b_M_hollow 57 = .ok (.iload 4, 2) := by decide +kernel
theorem d_M_hollow_59 : decode b_M_hollow 59 = .ok (.aload_n 0, 1) := by decide +kernel
theorem d_M_hollow_60 : decode b_M_hollow 60 = .ok (.getfield 25, 3) := by decide +kernel
theorem d_M_hollow_63 : decode b_M_hollow 63 = .ok (.iload_n 1, 1) := by decide +kernel
theorem d_M_hollow_64 : decode b_M_hollow 64 = .ok (.iaload, 1) := by decide +kernel
theorem d_M_hollow_65 : decode b_M_hollow 65 = .ok (.if_icmp .gt 34, 3) := by decide +kernel
theorem d_M_hollow_68 : decode b_M_hollow 68 = .ok (.aload_n 0, 1) := by decide +kernel
theorem d_M_hollow_69 : decode b_M_hollow 69 = .ok (.getfield 31, 3) := by decide +kernel
theorem d_M_hollow_72 : decode b_M_hollow 72 = .ok (.bipush 65, 2) := by decide +kernel
theorem d_M_hollow_74 : decode b_M_hollow 74 = .ok (.iload_n 1, 1) := by decide +kernel
theorem d_M_hollow_75 : decode b_M_hollow 75 = .ok (.imul, 1) := by decide +kernel
theorem d_M_hollow_76 : decode b_M_hollow 76 = .ok (.aload_n 0, 1) := by decide +kernel
theorem d_M_hollow_77 : decode b_M_hollow 77 = .ok (.getfield 25, 3) := by decide +kernel
theorem d_M_hollow_80 : decode b_M_hollow 80 = .ok (.iload_n 1, 1) := by decide +kernel
theorem d_M_hollow_81 : decode b_M_hollow 81 = .ok (.iaload, 1) := by decide +kernel
theorem d_M_hollow_82 : decode b_M_hollow 82 = .ok (.iadd, 1) := by decide +kernel
theorem d_M_hollow_83 : decode b_M_hollow 83 = .ok (.iload 4, 2) := by decide +kernel
theorem d_M_hollow_85 : decode b_M_hollow 85 = .ok (.isub, 1) := by decide +kernel
theorem d_M_hollow_86 : decode b_M_hollow 86 = .ok (.iaload, 1) := by decide +kernel
theorem d_M_hollow_87 : decode b_M_hollow 87 = .ok (.iload_n 2, 1) := by decide +kernel
theorem d_M_hollow_88 : decode b_M_hollow 88 = .ok (.isub, 1) := by decide +kernel
theorem d_M_hollow_89 : decode b_M_hollow 89 = .ok (.iload_n 3, 1) := by decide +kernel
theorem d_M_hollow_90 : decode b_M_hollow 90 = .ok (.if_icmp .lt 9, 3) := by decide +kernel
theorem d_M_hollow_93 : decode b_M_hollow 93 = .ok (.iinc 4 1, 3) := by decide +kernel
theorem d_M_hollow_96 : decode b_M_hollow 96 = .ok (.goto (-39), 3) := by decide +kernel
theorem d_M_hollow_99 : decode b_M_hollow 99 = .ok (.iload 4, 2) := by decide +kernel
theorem d_M_hollow_101 : decode b_M_hollow 101 = .ok (.ireturn, 1) := by decide +kernel
theorem d_M_in_0 : decode b_M_in 0 = .ok (.lload_n 0, 1) := by decide +kernel
theorem d_M_in_1 : decode b_M_in 1 = .ok (.lload_n 2, 1) := by decide +kernel
theorem d_M_in_2 : decode b_M_in 2 = .ok (.lcmp, 1) := by decide +kernel
theorem d_M_in_3 : decode b_M_in 3 = .ok (.ifCond .lt 14, 3) := by decide +kernel
theorem d_M_in_6 : decode b_M_in 6 = .ok (.lload_n 0, 1) := by decide +kernel
theorem d_M_in_7 : decode b_M_in 7 = .ok (.lload 4, 2) := by decide +kernel
theorem d_M_in_9 : decode b_M_in 9 = .ok (.lcmp, 1) := by decide +kernel
theorem d_M_in_10 : decode b_M_in 10 = .ok (.ifCond .gt 7, 3) := by decide +kernel
theorem d_M_in_13 : decode b_M_in 13 = .ok (.iconst 1, 1) := by decide +kernel
theorem d_M_in_14 : decode b_M_in 14 = .ok (.goto 4, 3) := by decide +kernel
theorem d_M_in_17 : decode b_M_in 17 = .ok (.iconst 0, 1) := by decide +kernel
theorem d_M_in_18 : decode b_M_in 18 = .ok (.ireturn, 1) := by decide +kernel
theorem d_M_init_0 : decode b_M_init 0 = .ok (.aload_n 0, 1) := by decide +kernel
theorem d_M_init_1 : decode b_M_init 1 = .ok (.invokespecial 1, 3) := by decide +kernel
theorem d_M_init_4 : decode b_M_init 4 = .ok (.aload_n 0, 1) := by decide +kernel
theorem d_M_init_5 : decode b_M_init 5 = .ok (.bipush 64, 2) := by decide +kernel
theorem d_M_init_7 : decode b_M_init 7 = .ok (.newarray .int, 2) := by decide +kernel
theorem d_M_init_9 : decode b_M_init 9 = .ok (.putfield 7, 3) := by decide +kernel
theorem d_M_init_12 : decode b_M_init 12 = .ok (.aload_n 0, 1) := by decide +kernel
theorem d_M_init_13 : decode b_M_init 13 = .ok (.bipush 64, 2) := by decide +kernel
theorem d_M_init_15 : decode b_M_init 15 = .ok (.newarray .int, 2) := by decide +kernel
theorem d_M_init_17 : decode b_M_init 17 = .ok (.putfield 13, 3) := by decide +kernel
theorem d_M_init_20 : decode b_M_init 20 = .ok (.aload_n 0, 1) := by decide +kernel
theorem d_M_init_21 : decode b_M_init 21 = .ok (.bipush 64, 2) := by decide +kernel
theorem d_M_init_23 : decode b_M_init 23 = .ok (.newarray .int, 2) := by decide +kernel
theorem d_M_init_25 : decode b_M_init 25 = .ok (.putfield 16, 3) := by decide +kernel
theorem d_M_init_28 : decode b_M_init 28 = .ok (.aload_n 0, 1) := by decide +kernel
theorem d_M_init_29 : decode b_M_init 29 = .ok (.bipush 64, 2) := by decide +kernel
theorem d_M_init_31 : decode b_M_init 31 = .ok (.newarray .int, 2) := by decide +kernel
theorem d_M_init_33 : decode b_M_init 33 = .ok (.putfield 19, 3) := by decide +kernel
theorem d_M_init_36 : decode b_M_init 36 = .ok (.aload_n 0, 1) := by decide +kernel
theorem d_M_init_37 : decode b_M_init 37 = .ok (.bipush 64, 2) := by decide +kernel
theorem d_M_init_39 : decode b_M_init 39 = .ok (.newarray .int, 2) := by decide +kernel
theorem d_M_init_41 : decode b_M_init 41 = .ok (.putfield 22, 3) := by decide +kernel
theorem d_M_init_44 : decode b_M_init 44 = .ok (.aload_n 0, 1) := by decide +kernel
theorem d_M_init_45 : decode b_M_init 45 = .ok (.bipush 6, 2) := by decide +kernel
theorem d_M_init_47 : decode b_M_init 47 = .ok (.newarray .int, 2) := by decide +kernel
theorem d_M_init_49 : decode b_M_init 49 = .ok (.putfield 25, 3) := by decide +kernel
theorem d_M_init_52 : decode b_M_init 52 = .ok (.aload_n 0, 1) := by decide +kernel
theorem d_M_init_53 : decode b_M_init 53 = .ok (.bipush 6, 2) := by decide +kernel
theorem d_M_init_55 : decode b_M_init 55 = .ok (.newarray .int, 2) := by decide +kernel
theorem d_M_init_57 : decode b_M_init 57 = .ok (.putfield 28, 3) := by decide +kernel
theorem d_M_init_60 : decode b_M_init 60 = .ok (.aload_n 0, 1) := by decide +kernel
theorem d_M_init_61 : decode b_M_init 61 = .ok (.sipush 390, 3) := by decide +kernel
theorem d_M_init_64 : decode b_M_init 64 = .ok (.newarray .int, 2) := by decide +kernel
theorem d_M_init_66 : decode b_M_init 66 = .ok (.putfield 31, 3) := by decide +kernel
theorem d_M_init_69 : decode b_M_init 69 = .ok (.aload_n 0, 1) := by decide +kernel
theorem d_M_init_70 : decode b_M_init 70 = .ok (.bipush 6, 2) := by decide +kernel
theorem d_M_init_72 : decode b_M_init 72 = .ok (.newarray .int, 2) := by decide +kernel
theorem d_M_init_74 : decode b_M_init 74 = .ok (.putfield 34, 3) := by decide +kernel
theorem d_M_init_77 : decode b_M_init 77 = .ok (.aload_n 0, 1) := by decide +kernel
theorem d_M_init_78 : decode b_M_init 78 = .ok (.bipush 65, 2) := by decide +kernel
theorem d_M_init_80 : decode b_M_init 80 = .ok (.newarray .int, 2) := by decide +kernel
theorem d_M_init_82 : decode b_M_init 82 = .ok (.putfield 37, 3) := by decide +kernel
theorem d_M_init_85 : decode b_M_init 85 = .ok (.aload_n 0, 1) := by decide +kernel
theorem d_M_init_86 : decode b_M_init 86 = .ok (.bipush 65, 2) := by decide +kernel
theorem d_M_init_88 : decode b_M_init 88 = .ok (.newarray .int, 2) := by decide +kernel
theorem d_M_init_90 : decode b_M_init 90 = .ok (.putfield 40, 3) := by decide +kernel
theorem d_M_init_93 : decode b_M_init 93 = .ok (.aload_n 0, 1) := by decide +kernel
theorem d_M_init_94 : decode b_M_init 94 = .ok (.bipush 6, 2) := by decide +kernel
theorem d_M_init_96 : decode b_M_init 96 = .ok (.newarray .int, 2) := by decide +kernel
theorem d_M_init_98 : decode b_M_init 98 = .ok (.putfield 43, 3) := by decide +kernel
theorem d_M_init_101 : decode b_M_init 101 = .ok (.aload_n 0, 1) := by decide +kernel
theorem d_M_init_102 : decode b_M_init 102 = .ok (.bipush 96, 2) := by decide +kernel
theorem d_M_init_104 : decode b_M_init 104 = .ok (.newarray .int, 2) := by decide +kernel
theorem d_M_init_106 : decode b_M_init 106 = .ok (.putfield 46, 3) := by decide +kernel
theorem d_M_init_109 : decode b_M_init 109 = .ok (.aload_n 0, 1) := by decide +kernel
theorem d_M_init_110 : decode b_M_init 110 = .ok (.bipush 96, 2) := by decide +kernel
theorem d_M_init_112 : decode b_M_init 112 = .ok (.newarray .int, 2) := by decide +kernel
theorem d_M_init_114 : decode b_M_init 114 = .ok (.putfield 49, 3) := by decide +kernel
theorem d_M_init_117 : decode b_M_init 117 = .ok (.aload_n 0, 1) := by decide +kernel
theorem d_M_init_118 : decode b_M_init 118 = .ok (.bipush 8, 2) := by decide +kernel
theorem d_M_init_120 : decode b_M_init 120 = .ok (.newarray .int, 2) := by decide +kernel
theorem d_M_init_122 : decode b_M_init 122 = .ok (.putfield 52, 3) := by decide +kernel
theorem d_M_init_125 : decode b_M_init 125 = .ok (.aload_n 0, 1) := by decide +kernel
theorem d_M_init_126 : decode b_M_init 126 = .ok (.bipush 8, 2) := by decide +kernel
theorem d_M_init_128 : decode b_M_init 128 = .ok (.newarray .int, 2) := by decide +kernel
theorem d_M_init_130 : decode b_M_init 130 = .ok (.putfield 55, 3) := by decide +kernel
theorem d_M_init_133 : decode b_M_init 133 = .ok (.return_, 1) := by decide +kernel
theorem d_M_isPiece_0 : decode b_M_isPiece 0 = .ok (.iload_n 1, 1) := by decide +kernel
theorem d_M_isPiece_1 : decode b_M_isPiece 1 = .ok (.i2l, 1) := by decide +kernel
theorem d_M_isPiece_2 : decode b_M_isPiece 2 = .ok (.lconst 0, 1) := by decide +kernel
theorem d_M_isPiece_3 : decode b_M_isPiece 3 = .ok (.aload_n 0, 1) := by decide +kernel
theorem d_M_isPiece_4 : decode b_M_isPiece 4 = .ok (.getfield 111, 3) := by decide +kernel
theorem d_M_isPiece_7 : decode b_M_isPiece 7 = .ok (.iconst 1, 1) := by decide +kernel
theorem d_M_isPiece_8 : decode b_M_isPiece 8 = .ok (.isub, 1) := by decide +kernel
theorem d_M_isPiece_9 : decode b_M_isPiece 9 = .ok (.i2l, 1) := by decide +kernel
theorem d_M_isPiece_10 : decode b_M_isPiece 10 = .ok (.invokestatic 64, 3) := by decide +kernel
theorem d_M_isPiece_13 : decode b_M_isPiece 13 = .ok (.ireturn, 1) := by decide +kernel
theorem d_M_lastAt_0 : decode b_M_lastAt 0 = .ok (.aload_n 0, 1) := by decide +kernel
theorem d_M_lastAt_1 : decode b_M_lastAt 1 = .ok (.getfield 75, 3) := by decide +kernel
theorem d_M_lastAt_4 : decode b_M_lastAt 4 = .ok (.ifCond .ne 7, 3) := by decide +kernel
theorem d_M_lastAt_7 : decode b_M_lastAt 7 = .ok (.iconst 0, 1) := by decide +kernel
theorem d_M_lastAt_8 : decode b_M_lastAt 8 = .ok (.goto 14, 3) := by decide +kernel
theorem d_M_lastAt_11 : decode b_M_lastAt 11 = .ok (.aload_n 0, 1) := by decide +kernel
theorem d_M_lastAt_12 : decode b_M_lastAt 12 = .ok (.getfield 7, 3) := by decide +kernel
theorem d_M_lastAt_15 : decode b_M_lastAt 15 = .ok (.aload_n 0, 1) := by decide +kernel
theorem d_M_lastAt_16 : decode b_M_lastAt 16 = .ok (.getfield 75, 3) := by decide +kernel
theorem d_M_lastAt_19 : decode b_M_lastAt 19 = .ok (.iconst 1, 1) := by decide +kernel
theorem d_M_lastAt_20 : decode b_M_lastAt 20 = .ok (.isub, 1) := by decide +kernel
theorem d_M_lastAt_21 : decode b_M_lastAt 21 = .ok (.iaload, 1) := by decide +kernel
theorem d_M_lastAt_22 : decode b_M_lastAt 22 = .ok (.ireturn, 1) := by decide +kernel
theorem d_M_lastRadius_0 : decode b_M_lastRadius 0 = .ok (.aload_n 0, 1) := by decide +kernel
theorem d_M_lastRadius_1 : decode b_M_lastRadius 1 = .ok (.getfield 75, 3) := by decide +kernel
theorem d_M_lastRadius_4 : decode b_M_lastRadius 4 = .ok (.ifCond .ne 10, 3) := by decide +kernel
theorem d_M_lastRadius_7 : decode b_M_lastRadius 7 = .ok (.aload_n 0, 1) := by decide +kernel
theorem d_M_lastRadius_8 : decode b_M_lastRadius 8 = .ok (.getfield 72, 3) := by decide +kernel
theorem d_M_lastRadius_11 : decode b_M_lastRadius 11 = .ok (.goto 14, 3) := by decide +kernel
theorem d_M_lastRadius_14 : decode b_M_lastRadius 14 = .ok (.aload_n 0, 1) := by decide +kernel
theorem d_M_lastRadius_15 : decode b_M_lastRadius 15 = .ok (.getfield 13, 3) := by decide +kernel
theorem d_M_lastRadius_18 : decode b_M_lastRadius 18 = .ok (.aload_n 0, 1) := by decide +kernel
theorem d_M_lastRadius_19 : decode b_M_lastRadius 19 = .ok (.getfield 75, 3) := by decide +kernel
theorem d_M_lastRadius_22 : decode b_M_lastRadius 22 = .ok (.iconst 1, 1) := by decide +kernel
theorem d_M_lastRadius_23 : decode b_M_lastRadius 23 = .ok (.isub, 1) := by decide +kernel
theorem d_M_lastRadius_24 : decode b_M_lastRadius 24 = .ok (.iaload, 1) := by decide +kernel
theorem d_M_lastRadius_25 : decode b_M_lastRadius 25 = .ok (.ireturn, 1) := by decide +kernel
theorem d_M_left_0 : decode b_M_left 0 = .ok (.aload_n 0, 1) := by decide +kernel
theorem d_M_left_1 : decode b_M_left 1 = .ok (.aload_n 0, 1) := by decide +kernel
theorem d_M_left_2 : decode b_M_left 2 = .ok (.iload_n 1, 1) := by decide +kernel
theorem d_M_left_3 : decode b_M_left 3 = .ok (.invokevirtual 117, 3) := by decide +kernel
theorem d_M_left_6 : decode b_M_left 6 = .ok (.ifCond .eq 23, 3) := by decide +kernel
theorem d_M_left_9 : decode b_M_left 9 = .ok (.iload_n 2, 1) := by decide +kernel
theorem d_M_left_10 : decode b_M_left 10 = .ok (.i2l, 1) := by decide +kernel
theorem d_M_left_11 : decode b_M_left 11 = .ok (.lconst 0, 1) := by decide +kernel
theorem d_M_left_12 : decode b_M_left 12 = .ok (.aload_n 0, 1) := by decide +kernel
theorem d_M_left_13 : decode b_M_left 13 = .ok (.getfield 132, 3) := by decide +kernel
theorem d_M_left_16 : decode b_M_left 16 = .ok (.iconst 1, 1) := by decide +kernel
theorem d_M_left_17 : decode b_M_left 17 = .ok (.isub, 1) := by decide +kernel
theorem d_M_left_18 : decode b_M_left 18 = .ok (.i2l, 1) := by decide +kernel
theorem d_M_left_19 : decode b_M_left 19 = .ok (.invokestatic 64, 3) := by decide +kernel
theorem d_M_left_22 : decode b_M_left 22 = .ok (.ifCond .eq 7, 3) := by decide +kernel
theorem d_M_left_25 : decode b_M_left 25 = .ok (.iconst 0, 1) := by decide +kernel
theorem d_M_left_26 : decode b_M_left 26 = .ok (.goto 4, 3) := by decide +kernel
theorem d_M_left_29 : decode b_M_left 29 = .ok (.iconst 1, 1) := by decide +kernel
theorem d_M_left_30 : decode b_M_left 30 = .ok (.putfield 58, 3) := by decide +kernel
theorem d_M_left_33 : decode b_M_left 33 = .ok (.aload_n 0, 1) := by decide +kernel
theorem d_M_left_34 : decode b_M_left 34 = .ok (.getfield 58, 3) := by decide +kernel
theorem d_M_left_37 : decode b_M_left 37 = .ok (.ifCond .le 5, 3) := by decide +kernel
theorem d_M_left_40 : decode b_M_left 40 = .ok (.iconst 0, 1) := by decide +kernel
theorem d_M_left_41 : decode b_M_left 41 = .ok (.ireturn, 1) := by decide +kernel
theorem d_M_left_42 : decode b_M_left 42 = .ok (.aload_n 0, 1) := by decide +kernel
theorem d_M_left_43 : decode b_M_left 43 = .ok (.iload_n 1, 1) := by decide +kernel
theorem d_M_left_44 : decode b_M_left 44 = .ok (.iload_n 2, 1) := by decide +kernel
theorem d_M_left_45 : decode b_M_left 45 = .ok (.invokevirtual 135, 3) := by decide +kernel
theorem d_M_left_48 : decode b_M_left 48 = .ok (.iconst 0, 1) := by decide +kernel
theorem d_M_left_49 : decode b_M_left 49 = .ok (.istore_n 3, 1) := by decide +kernel
theorem d_M_left_50 : decode b_M_left 50 = .ok (.iconst 0, 1) := by decide +kernel
theorem d_M_left_51 : decode b_M_left 51 = .ok (.istore 4, 2) := by decide +kernel
theorem d_M_left_53 : decode b_M_left 53 = .ok (.iload 4, 2) := by decide +kernel
theorem d_M_left_55 : decode b_M_left 55 = .ok (.aload_n 0, 1) := by decide +kernel
theorem d_M_left_56 : decode b_M_left 56 = .ok (.getfield 25, 3) := by decide +kernel
theorem d_M_left_59 : decode b_M_left 59 = .ok (.iload_n 1, 1) := by decide +kernel
theorem d_M_left_60 : decode b_M_left 60 = .ok (.iaload, 1) := by decide +kernel
theorem d_M_left_61 : decode b_M_left 61 = .ok (.if_icmp .gt 39, 3) := by decide +kernel
theorem d_M_left_64 : decode b_M_left 64 = .ok (.iload_n 3, 1) := by decide +kernel
theorem d_M_left_65 : decode b_M_left 65 = .ok (.aload_n 0, 1) := by decide +kernel
theorem d_M_left_66 : decode b_M_left 66 = .ok (.getfield 40, 3) := by decide +kernel
theorem d_M_left_69 : decode b_M_left 69 = .ok (.iload 4, 2) := by decide +kernel
theorem d_M_left_71 : decode b_M_left 71 = .ok (.iaload, 1) := by decide +kernel
theorem d_M_left_72 : decode b_M_left 72 = .ok (.aload_n 0, 1) := by decide +kernel
theorem d_M_left_73 : decode b_M_left 73 = .ok (.getfield 31, 3) := by decide +kernel
theorem d_M_left_76 : decode b_M_left 76 = .ok (.bipush 65, 2) := by decide +kernel
theorem d_M_left_78 : decode b_M_left 78 = .ok (.iload_n 1, 1) := by decide +kernel
theorem d_M_left_79 : decode b_M_left 79 = .ok (.imul, 1) := by decide +kernel
theorem d_M_left_80 : decode b_M_left 80 = .ok (.iload 4, 2) := by decide +kernel
theorem d_M_left_82 : decode b_M_left 82 = .ok (.iadd, 1) := by decide +kernel
theorem d_M_left_83 : decode b_M_left 83 = .ok (.iaload, 1) := by decide +kernel
theorem d_M_left_84 : decode b_M_left 84 = .ok (.if_icmp .le 7, 3) := by decide +kernel
theorem d_M_left_87 : decode b_M_left 87 = .ok (.iconst 1, 1) := by decide +kernel
theorem d_M_left_88 : decode b_M_left 88 = .ok (.goto 4, 3) := by decide +kernel
theorem d_M_left_91 : decode b_M_left 91 = .ok (.iconst 0, 1) := by decide +kernel
theorem d_M_left_92 : decode b_M_left 92 = .ok (.iadd, 1) := by decide +kernel
theorem d_M_left_93 : decode b_M_left 93 = .ok (.istore_n 3, 1) := by decide +kernel
theorem d_M_left_94 : decode b_M_left 94 = .ok (.iinc 4 1, 3) := by decide +kernel
theorem d_M_left_97 : decode b_M_left 97 = .ok (.goto (-44), 3) := by decide +kernel
theorem d_M_left_100 : decode b_M_left 100 = .ok (.iload_n 3, 1) := by decide +kernel
theorem d_M_left_101 : decode b_M_left 101 = .ok (.ireturn, 1) := by decide +kernel
theorem d_M_line_0 : decode b_M_line 0 = .ok (.aload_n 0, 1) := by decide +kernel
theorem d_M_line_1 : decode b_M_line 1 = .ok (.iload_n 1, 1) := by decide +kernel
theorem d_M_line_2 : decode b_M_line 2 = .ok (.iload_n 2, 1) := by decide +kernel
theorem d_M_line_3 : decode b_M_line 3 = .ok (.invokevirtual 84, 3) := by decide +kernel
theorem d_M_line_6 : decode b_M_line 6 = .ok (.aload_n 0, 1) := by decide +kernel
theorem d_M_line_7 : decode b_M_line 7 = .ok (.getfield 58, 3) := by decide +kernel
theorem d_M_line_10 : decode b_M_line 10 = .ok (.ifCond .le 5, 3) := by decide +kernel
theorem d_M_line_13 : decode b_M_line 13 = .ok (.iconst 0, 1) := by decide +kernel
theorem d_M_line_14 : decode b_M_line 14 = .ok (.ireturn, 1) := by decide +kernel
theorem d_M_line_15 : decode b_M_line 15 = .ok (.aload_n 0, 1) := by decide +kernel
theorem d_M_line_16 : decode b_M_line 16 = .ok (.iload_n 1, 1) := by decide +kernel
theorem d_M_line_17 : decode b_M_line 17 = .ok (.iload_n 2, 1) := by decide +kernel
theorem d_M_line_18 : decode b_M_line 18 = .ok (.iconst 0, 1) := by decide +kernel
theorem d_M_line_19 : decode b_M_line 19 = .ok (.iconst 0, 1) := by decide +kernel
theorem d_M_line_20 : decode b_M_line 20 = .ok (.iconst 0, 1) := by decide +kernel
theorem d_M_line_21 : decode b_M_line 21 = .ok (.invokevirtual 88, 3) := by decide +kernel
theorem d_M_line_24 : decode b_M_line 24 = .ok (.aload_n 0, 1) := by decide +kernel
theorem d_M_line_25 : decode b_M_line 25 = .ok (.getfield 75, 3) := by decide +kernel
theorem d_M_line_28 : decode b_M_line 28 = .ok (.ireturn, 1) := by decide +kernel
theorem d_M_look_0 : decode b_M_look 0 = .ok (.aload_n 0, 1) := by decide +kernel
theorem d_M_look_1 : decode b_M_look 1 = .ok (.iload_n 2, 1) := by decide +kernel
theorem d_M_look_2 : decode b_M_look 2 = .ok (.i2l, 1) := by decide +kernel
theorem d_M_look_3 : decode b_M_look 3 = .ok (.lconst 0, 1) := by decide +kernel
theorem d_M_look_4 : decode b_M_look 4 = .ok (.ldc2_w 62, 3) := by decide +kernel
theorem d_M_look_7 : decode b_M_look 7 = .ok (.invokestatic 64, 3) := by decide +kernel
theorem d_M_look_10 : decode b_M_look 10 = .ok (.ifCond .eq 15, 3) := by decide +kernel
theorem d_M_look_13 : decode b_M_look 13 = .ok (.iload_n 1, 1) := by decide +kernel
theorem d_M_look_14 : decode b_M_look 14 = .ok (.i2l, 1) := by decide +kernel
theorem d_M_look_15 : decode b_M_look 15 = .ok (.lconst 1, 1) := by decide +kernel
theorem d_M_look_16 : decode b_M_look 16 = .ok (.ldc2_w 78, 3) := by decide +kernel
theorem d_M_look_19 : decode b_M_look 19 = .ok (.invokestatic 64, 3) := by decide +kernel
theorem d_M_look_22 : decode b_M_look 22 = .ok (.ifCond .ne 7, 3) := by decide +kernel
theorem d_M_look_25 : decode b_M_look 25 = .ok (.iconst 1, 1) := by decide +kernel
theorem d_M_look_26 : decode b_M_look 26 = .ok (.goto 27, 3) := by decide +kernel
theorem d_M_look_29 : decode b_M_look 29 = .ok (.aload_n 0, 1) := by decide +kernel
theorem d_M_look_30 : decode b_M_look 30 = .ok (.getfield 68, 3) := by decide +kernel
theorem d_M_look_33 : decode b_M_look 33 = .ok (.ifCond .ne 7, 3) := by decide +kernel
theorem d_M_look_36 : decode b_M_look 36 = .ok (.iconst 2, 1) := by decide +kernel
theorem d_M_look_37 : decode b_M_look 37 = .ok (.goto 16, 3) := by decide +kernel
theorem d_M_look_40 : decode b_M_look 40 = .ok (.iload_n 1, 1) := by decide +kernel
theorem d_M_look_41 : decode b_M_look 41 = .ok (.aload_n 0, 1) := by decide +kernel
theorem d_M_look_42 : decode b_M_look 42 = .ok (.invokevirtual 80, 3) := by decide +kernel
theorem d_M_look_45 : decode b_M_look 45 = .ok (.if_icmp .gt 7, 3) := by decide +kernel
theorem d_M_look_48 : decode b_M_look 48 = .ok (.iconst 1, 1) := by decide +kernel
theorem d_M_look_49 : decode b_M_look 49 = .ok (.goto 4, 3) := by decide +kernel
theorem d_M_look_52 : decode b_M_look 52 = .ok (.iconst 0, 1) := by decide +kernel
theorem d_M_look_53 : decode b_M_look 53 = .ok (.putfield 58, 3) := by decide +kernel
theorem d_M_look_56 : decode b_M_look 56 = .ok (.return_, 1) := by decide +kernel
theorem d_M_lookRough_0 : decode b_M_lookRough 0 = .ok (.aload_n 0, 1) := by decide +kernel
theorem d_M_lookRough_1 : decode b_M_lookRough 1 = .ok (.aload_n 0, 1) := by decide +kernel
theorem d_M_lookRough_2 : decode b_M_lookRough 2 = .ok (.iload_n 1, 1) := by decide +kernel
theorem d_M_lookRough_3 : decode b_M_lookRough 3 = .ok (.invokevirtual 117, 3) := by decide +kernel
theorem d_M_lookRough_6 : decode b_M_lookRough 6 = .ok (.ifCond .eq 19, 3) := by decide +kernel
theorem d_M_lookRough_9 : decode b_M_lookRough 9 = .ok (.iload_n 2, 1) := by decide +kernel
theorem d_M_lookRough_10 : decode b_M_lookRough 10 = .ok (.i2l, 1) := by decide +kernel
theorem d_M_lookRough_11 : decode b_M_lookRough 11 = .ok (.lconst 0, 1) := by decide +kernel
theorem d_M_lookRough_12 : decode b_M_lookRough 12 = .ok (.aload_n 0, 1) := by decide +kernel
theorem d_M_lookRough_13 : decode b_M_lookRough 13 = .ok (.getfield 132, 3) := by decide +kernel
theorem d_M_lookRough_16 : decode b_M_lookRough 16 = .ok (.iconst 1, 1) := by decide +kernel
theorem d_M_lookRough_17 : decode b_M_lookRough 17 = .ok (.isub, 1) := by decide +kernel
theorem d_M_lookRough_18 : decode b_M_lookRough 18 = .ok (.i2l, 1) := by decide +kernel
theorem d_M_lookRough_19 : decode b_M_lookRough 19 = .ok (.invokestatic 64, 3) := by decide +kernel
theorem d_M_lookRough_22 : decode b_M_lookRough 22 = .ok (.ifCond .ne 7, 3) := by decide +kernel
theorem d_M_lookRough_25 : decode b_M_lookRough 25 = .ok (.iconst 1, 1) := by decide +kernel
theorem d_M_lookRough_26 : decode b_M_lookRough 26 = .ok (.goto 33, 3) := by decide +kernel
theorem d_M_lookRough_29 : decode b_M_lookRough 29 = .ok (.iload_n 3, 1) := by decide +kernel
theorem d_M_lookRough_30 : decode b_M_lookRough 30 = .ok (.i2l, 1) := by decide +kernel
theorem d_M_lookRough_31 : decode b_M_lookRough 31 = .ok (.lconst 1, 1) := by decide +kernel
theorem d_M_lookRough_32 : decode b_M_lookRough 32 = .ok (.ldc2_w 138, 3) := by decide +kernel
theorem d_M_lookRough_35 : decode b_M_lookRough 35 = .ok (.invokestatic 64, 3) := by decide +kernel
theorem d_M_lookRough_38 : decode b_M_lookRough 38 = .ok (.ifCond .eq 16, 3) := by decide +kernel
theorem d_M_lookRough_41 : decode b_M_lookRough 41 = .ok (.iload 4, 2) := by decide +kernel
theorem d_M_lookRough_43 : decode b_M_lookRough 43 = .ok (.i2l, 1) := by decide +kernel
theorem d_M_lookRough_44 : decode b_M_lookRough 44 = .ok (.lconst 0, 1) := by decide +kernel
theorem d_M_lookRough_45 : decode b_M_lookRough 45 = .ok (.ldc2_w 140, 3) := by decide +kernel
theorem d_M_lookRough_48 : decode b_M_lookRough 48 = .ok (.invokestatic 64, 3) := by decide +kernel
theorem d_M_lookRough_51 : decode b_M_lookRough 51 = .ok (.ifCond .ne 7, 3) := by decide +kernel
theorem d_M_lookRough_54 : decode b_M_lookRough 54 = .ok (.iconst 2, 1) := by decide +kernel
theorem d_M_lookRough_55 : decode b_M_lookRough 55 = .ok (.goto 4, 3) := by decide +kernel
theorem d_M_lookRough_58 : decode b_M_lookRough 58 = .ok (.iconst 0, 1) := by decide +kernel
theorem d_M_lookRough_59 : decode b_M_lookRough 59 = .ok (.putfield 58, 3) := by decide +kernel
theorem d_M_lookRough_62 : decode b_M_lookRough 62 = .ok (.return_, 1) := by decide +kernel
theorem d_M_mitre_0 : decode b_M_mitre 0 = .ok (.iload_n 1, 1) := by decide +kernel
theorem d_M_mitre_1 : decode b_M_mitre 1 = .ok (.i2l, 1) := by decide +kernel
theorem d_M_mitre_2 : decode b_M_mitre 2 = .ok (.lconst 0, 1) := by decide +kernel
theorem d_M_mitre_3 : decode b_M_mitre 3 = .ok (.aload_n 0, 1) := by decide +kernel
theorem d_M_mitre_4 : decode b_M_mitre 4 = .ok (.getfield 160, 3) := by decide +kernel
theorem d_M_mitre_7 : decode b_M_mitre 7 = .ok (.iconst 1, 1) := by decide +kernel
theorem d_M_mitre_8 : decode b_M_mitre 8 = .ok (.isub, 1) := by decide +kernel
theorem d_M_mitre_9 : decode b_M_mitre 9 = .ok (.i2l, 1) := by decide +kernel
theorem d_M_mitre_10 : decode b_M_mitre 10 = .ok (.invokestatic 64, 3) := by decide +kernel
theorem d_M_mitre_13 : decode b_M_mitre 13 = .ok (.ifCond .eq 35, 3) := by decide +kernel
theorem d_M_mitre_16 : decode b_M_mitre 16 = .ok (.iload_n 2, 1) := by decide +kernel
theorem d_M_mitre_17 : decode b_M_mitre 17 = .ok (.i2l, 1) := by decide +kernel
theorem d_M_mitre_18 : decode b_M_mitre 18 = .ok (.lconst 0, 1) := by decide +kernel
theorem d_M_mitre_19 : decode b_M_mitre 19 = .ok (.aload_n 0, 1) := by decide +kernel
theorem d_M_mitre_20 : decode b_M_mitre 20 = .ok (.getfield 43, 3) := by decide +kernel
theorem d_M_mitre_23 : decode b_M_mitre 23 = .ok (.iload_n 1, 1) := by decide +kernel
theorem d_M_mitre_24 : decode b_M_mitre 24 = .ok (.iaload, 1) := by decide +kernel
theorem d_M_mitre_25 : decode b_M_mitre 25 = .ok (.iconst 1, 1) := by decide +kernel
theorem d_M_mitre_26 : decode b_M_mitre 26 = .ok (.isub, 1) := by decide +kernel
theorem d_M_mitre_27 : decode b_M_mitre 27 = .ok (.i2l, 1) := by decide +kernel
theorem d_M_mitre_28 : decode b_M_mitre 28 = .ok (.invokestatic 64, 3) := by decide +kernel
theorem d_M_mitre_31 : decode b_M_mitre 31 = .ok (.ifCond .eq 17, 3) := by decide +kernel
theorem d_M_mitre_34 : decode b_M_mitre 34 = .ok (.iload_n 3, 1) := by decide +kernel
theorem d_M_mitre_35 : decode b_M_mitre 35 = .ok (.i2l, 1) := by decide +kernel
theorem d_M_mitre_36 : decode b_M_mitre 36 = .ok (.lconst 0, 1) := by decide +kernel
theorem d_M_mitre_37 : decode b_M_mitre 37 = .ok (.lconst 1, 1) := by decide +kernel
theorem d_M_mitre_38 : decode b_M_mitre 38 = .ok (.invokestatic 64, 3) := by decide +kernel
theorem d_M_mitre_41 : decode b_M_mitre 41 = .ok (.ifCond .eq 7, 3) := by decide +kernel
theorem d_M_mitre_44 : decode b_M_mitre 44 = .ok (.iconst 1, 1) := by decide +kernel
theorem d_M_mitre_45 : decode b_M_mitre 45 = .ok (.goto 4, 3) := by decide +kernel
theorem d_M_mitre_48 : decode b_M_mitre 48 = .ok (.iconst 0, 1) := by decide +kernel
theorem d_M_mitre_49 : decode b_M_mitre 49 = .ok (.istore 4, 2) := by decide +kernel
theorem d_M_mitre_51 : decode b_M_mitre 51 = .ok (.aload_n 0, 1) := by decide +kernel
theorem d_M_mitre_52 : decode b_M_mitre 52 = .ok (.iload 4, 2) := by decide +kernel
theorem d_M_mitre_54 : decode b_M_mitre 54 = .ok (.ifCond .eq 7, 3) := by decide +kernel
theorem d_M_mitre_57 : decode b_M_mitre 57 = .ok (.iconst 0, 1) := by decide +kernel
theorem d_M_mitre_58 : decode b_M_mitre 58 = .ok (.goto 4, 3) := by decide +kernel
theorem d_M_mitre_61 : decode b_M_mitre 61 = .ok (.iconst 1, 1) := by decide +kernel
theorem d_M_mitre_62 : decode b_M_mitre 62 = .ok (.putfield 58, 3) := by decide +kernel
theorem d_M_mitre_65 : decode b_M_mitre 65 = .ok (.iload 4, 2) := by decide +kernel
theorem d_M_mitre_67 : decode b_M_mitre 67 = .ok (.ifCond .eq 38, 3) := by decide +kernel
theorem d_M_mitre_70 : decode b_M_mitre 70 = .ok (.aload_n 0, 1) := by decide +kernel
theorem d_M_mitre_71 : decode b_M_mitre 71 = .ok (.getfield 46, 3) := by decide +kernel
theorem d_M_mitre_74 : decode b_M_mitre 74 = .ok (.bipush 16, 2) := by decide +kernel
theorem d_M_mitre_76 : decode b_M_mitre 76 = .ok (.iload_n 1, 1) := by decide +kernel
theorem d_M_mitre_77 : decode b_M_mitre 77 = .ok (.imul, 1) := by decide +kernel
theorem d_M_mitre_78 : decode b_M_mitre 78 = .ok (.iload_n 2, 1) := by decide +kernel
theorem d_M_mitre_79 : decode b_M_mitre 79 = .ok (.iadd, 1) := by decide +kernel
theorem d_M_mitre_80 : decode b_M_mitre 80 = .ok (.iaload, 1) := by decide +kernel
theorem d_M_mitre_81 : decode b_M_mitre 81 = .ok (.i2l, 1) := by decide +kernel
theorem d_M_mitre_82 : decode b_M_mitre 82 = .ok (.ldc2_w 125, 3) := by decide +kernel
theorem d_M_mitre_85 : decode b_M_mitre 85 = .ok (.aload_n 0, 1) := by decide +kernel
theorem d_M_mitre_86 : decode b_M_mitre 86 = .ok (.getfield 49, 3) := by decide +kernel
theorem d_M_mitre_89 : decode b_M_mitre 89 = .ok (.bipush 16, 2) := by decide +kernel
theorem d_M_mitre_91 : decode b_M_mitre 91 = .ok (.iload_n 1, 1) := by decide +kernel
theorem d_M_mitre_92 : decode b_M_mitre 92 = .ok (.imul, 1) := by decide +kernel
theorem d_M_mitre_93 : decode b_M_mitre 93 = .ok (.iload_n 2, 1) := by decide +kernel
theorem d_M_mitre_94 : decode b_M_mitre 94 = .ok (.iadd, 1) := by decide +kernel
theorem d_M_mitre_95 : decode b_M_mitre 95 = .ok (.iaload, 1) := by decide +kernel
theorem d_M_mitre_96 : decode b_M_mitre 96 = .ok (.i2l, 1) := by decide +kernel
theorem d_M_mitre_97 : decode b_M_mitre 97 = .ok (.lmul, 1) := by decide +kernel
theorem d_M_mitre_98 : decode b_M_mitre 98 = .ok (.iload_n 3, 1) := by decide +kernel
theorem d_M_mitre_99 : decode b_M_mitre 99 = .ok (.invokestatic 165, 3) := by decide +kernel
theorem d_M_mitre_102 : decode b_M_mitre 102 = .ok (.goto 4, 3) := by decide +kernel
theorem d_M_mitre_105 : decode b_M_mitre 105 = .ok (.lconst 0, 1) := by decide +kernel
theorem d_M_mitre_106 : decode b_M_mitre 106 = .ok (.lreturn, 1) := by decide +kernel
end
section
theorem d_M_nextHeld_0 : decode b_M_nextHeld 0 = .ok (.iload_n 3, 1) := by decide +kernel
theorem d_M_nextHeld_1 : decode b_M_nextHeld 1 = .ok (.iconst 1, 1) := by decide +kernel
theorem d_M_nextHeld_2 : decode b_M_nextHeld 2 = .ok (.iadd, 1) := by decide +kernel
theorem d_M_nextHeld_3 : decode b_M_nextHeld 3 = .ok (.istore 4, 2) := by decide +kernel
theorem d_M_nextHeld_5 : decode b_M_nextHeld 5 = .ok (.aload_n 0, 1) := by decide +kernel
theorem d_M_nextHeld_6 : decode b_M_nextHeld 6 = .ok (.getfield 31, 3) := by decide +kernel
theorem d_M_nextHeld_9 : decode b_M_nextHeld 9 = .ok (.bipush 65, 2) := by decide +kernel
theorem d_M_nextHeld_11 : decode b_M_nextHeld 11 = .ok (.iload_n 1, 1) := by decide +kernel
theorem d_M_nextHeld_12 : decode b_M_nextHeld 12 = .ok (.imul, 1) := by decide +kernel
theorem d_M_nextHeld_13 : decode b_M_nextHeld 13 = .ok (.iload_n 3, 1) := by decide +kernel
theorem d_M_nextHeld_14 : decode b_M_nextHeld 14 = .ok (.iadd, 1) := by decide +kernel
theorem d_M_nextHeld_15 : decode b_M_nextHeld 15 = .ok (.iaload, 1) := by decide +kernel
theorem d_M_nextHeld_16 : decode b_M_nextHeld 16 = .ok (.istore 5, 2) := by decide +kernel
theorem d_M_nextHeld_18 : decode b_M_nextHeld 18 = .ok (.iload_n 3, 1) := by decide +kernel
theorem d_M_nextHeld_19 : decode b_M_nextHeld 19 = .ok (.iconst 1, 1) := by decide +kernel
theorem d_M_nextHeld_20 : decode b_M_nextHeld 20 = .ok (.iadd, 1) := by decide +kernel
theorem d_M_nextHeld_21 : decode b_M_nextHeld 21 = .ok (.istore 6, 2) := by decide +kernel
theorem d_M_nextHeld_23 : decode b_M_nextHeld 23 = .ok (.iload 6, 2) := by decide +kernel
theorem d_M_nextHeld_25 : decode b_M_nextHeld 25 = .ok (.aload_n 0, 1) := by decide +kernel
theorem d_M_nextHeld_26 : decode b_M_nextHeld 26 = .ok (.getfield 25, 3) := by decide +kernel
theorem d_M_nextHeld_29 : decode b_M_nextHeld 29 = .ok (.iload_n 1, 1) := by decide +kernel
theorem d_M_nextHeld_30 : decode b_M_nextHeld 30 = .ok (.iaload, 1) := by decide +kernel
theorem d_M_nextHeld_31 : decode b_M_nextHeld 31 = .ok (.if_icmp .gt 59, 3) := by decide +kernel
theorem d_M_nextHeld_34 : decode b_M_nextHeld 34 = .ok (.aload_n 0, 1) := by decide +kernel
theorem d_M_nextHeld_35 : decode b_M_nextHeld 35 = .ok (.getfield 31, 3) := by decide +kernel
theorem d_M_nextHeld_38 : decode b_M_nextHeld 38 = .ok (.bipush 65, 2) := by decide +kernel
theorem d_M_nextHeld_40 : decode b_M_nextHeld 40 = .ok (.iload_n 1, 1) := by decide +kernel
theorem d_M_nextHeld_41 : decode b_M_nextHeld 41 = .ok (.imul, 1) := by decide +kernel
theorem d_M_nextHeld_42 : decode b_M_nextHeld 42 = .ok (.iload 6, 2) := by decide +kernel
theorem d_M_nextHeld_44 : decode b_M_nextHeld 44 = .ok (.iadd, 1) := by decide +kernel
theorem d_M_nextHeld_45 : decode b_M_nextHeld 45 = .ok (.iaload, 1) := by decide +kernel
theorem d_M_nextHeld_46 : decode b_M_nextHeld 46 = .ok (.istore 7, 2) := by decide +kernel
theorem d_M_nextHeld_48 : decode b_M_nextHeld 48 = .ok (.iload 7, 2) := by decide +kernel
theorem d_M_nextHeld_50 : decode b_M_nextHeld 50 = .ok (.iload 5, 2) := by decide +kernel
theorem d_M_nextHeld_52 : decode b_M_nextHeld 52 = .ok (.if_icmp .ge 8, 3) := by decide +kernel
theorem d_M_nextHeld_55 : decode b_M_nextHeld 55 = .ok (.iload 7, 2) := by decide +kernel
theorem d_M_nextHeld_57 : decode b_M_nextHeld 57 = .ok (.goto 5, 3) := by decide +kernel
theorem d_M_nextHeld_60 : decode b_M_nextHeld 60 = .ok (.iload 5, 2) := by decide +kernel
theorem d_M_nextHeld_62 : decode b_M_nextHeld 62 = .ok (.istore 5, 2) := by decide +kernel
theorem d_M_nextHeld_64 : decode b_M_nextHeld 64 = .ok (.iload 6, 2) := by decide +kernel
theorem d_M_nextHeld_66 : decode b_M_nextHeld 66 = .ok (.iload_n 3, 1) := by decide +kernel
theorem d_M_nextHeld_67 : decode b_M_nextHeld 67 = .ok (.isub, 1) := by decide +kernel
theorem d_M_nextHeld_68 : decode b_M_nextHeld 68 = .ok (.iload_n 2, 1) := by decide +kernel
theorem d_M_nextHeld_69 : decode b_M_nextHeld 69 = .ok (.imul, 1) := by decide +kernel
theorem d_M_nextHeld_70 : decode b_M_nextHeld 70 = .ok (.iload 5, 2) := by decide +kernel
theorem d_M_nextHeld_72 : decode b_M_nextHeld 72 = .ok (.if_icmp .gt 8, 3) := by decide +kernel
theorem d_M_nextHeld_75 : decode b_M_nextHeld 75 = .ok (.iload 6, 2) := by decide +kernel
theorem d_M_nextHeld_77 : decode b_M_nextHeld 77 = .ok (.goto 5, 3) := by decide +kernel
theorem d_M_nextHeld_80 : decode b_M_nextHeld 80 = .ok (.iload 4, 2) := by decide +kernel
theorem d_M_nextHeld_82 : decode b_M_nextHeld 82 = .ok (.istore 4, 2) := by decide +kernel
theorem d_M_nextHeld_84 : decode b_M_nextHeld 84 = .ok (.iinc 6 1, 3) := by decide +kernel
theorem d_M_nextHeld_87 : decode b_M_nextHeld 87 = .ok (.goto (-64), 3) := by decide +kernel
theorem d_M_nextHeld_90 : decode b_M_nextHeld 90 = .ok (.iload 4, 2) := by decide +kernel
theorem d_M_nextHeld_92 : decode b_M_nextHeld 92 = .ok (.ireturn, 1) := by decide +kernel
theorem d_M_onWay_0 : decode b_M_onWay 0 = .ok (.aload_n 0, 1) := by decide +kernel
theorem d_M_onWay_1 : decode b_M_onWay 1 = .ok (.getfield 16, 3) := by decide +kernel
theorem d_M_onWay_4 : decode b_M_onWay 4 = .ok (.iload_n 1, 1) := by decide +kernel
theorem d_M_onWay_5 : decode b_M_onWay 5 = .ok (.iaload, 1) := by decide +kernel
theorem d_M_onWay_6 : decode b_M_onWay 6 = .ok (.ifCond .ne 50, 3) := by decide +kernel
theorem d_M_onWay_9 : decode b_M_onWay 9 = .ok (.iload 4, 2) := by decide +kernel
theorem d_M_onWay_11 : decode b_M_onWay 11 = .ok (.iload_n 2, 1) := by decide +kernel
theorem d_M_onWay_12 : decode b_M_onWay 12 = .ok (.isub, 1) := by decide +kernel
theorem d_M_onWay_13 : decode b_M_onWay 13 = .ok (.aload_n 0, 1) := by decide +kernel
theorem d_M_onWay_14 : decode b_M_onWay 14 = .ok (.getfield 13, 3) := by decide +kernel
theorem d_M_onWay_17 : decode b_M_onWay 17 = .ok (.iload_n 1, 1) := by decide +kernel
theorem d_M_onWay_18 : decode b_M_onWay 18 = .ok (.iaload, 1) := by decide +kernel
theorem d_M_onWay_19 : decode b_M_onWay 19 = .ok (.iload_n 3, 1) := by decide +kernel
theorem d_M_onWay_20 : decode b_M_onWay 20 = .ok (.isub, 1) := by decide +kernel
theorem d_M_onWay_21 : decode b_M_onWay 21 = .ok (.imul, 1) := by decide +kernel
theorem d_M_onWay_22 : decode b_M_onWay 22 = .ok (.istore 5, 2) := by decide +kernel
theorem d_M_onWay_24 : decode b_M_onWay 24 = .ok (.aload_n 0, 1) := by decide +kernel
theorem d_M_onWay_25 : decode b_M_onWay 25 = .ok (.getfield 7, 3) := by decide +kernel
theorem d_M_onWay_28 : decode b_M_onWay 28 = .ok (.iload_n 1, 1) := by decide +kernel
theorem d_M_onWay_29 : decode b_M_onWay 29 = .ok (.iaload, 1) := by decide +kernel
theorem d_M_onWay_30 : decode b_M_onWay 30 = .ok (.iload_n 2, 1) := by decide +kernel
theorem d_M_onWay_31 : decode b_M_onWay 31 = .ok (.isub, 1) := by decide +kernel
theorem d_M_onWay_32 : decode b_M_onWay 32 = .ok (.istore 6, 2) := by decide +kernel
theorem d_M_onWay_34 : decode b_M_onWay 34 = .ok (.iload_n 3, 1) := by decide +kernel
theorem d_M_onWay_35 : decode b_M_onWay 35 = .ok (.iload 5, 2) := by decide +kernel
theorem d_M_onWay_37 : decode b_M_onWay 37 = .ok (.iload 6, 2) := by decide +kernel
theorem d_M_onWay_39 : decode b_M_onWay 39 = .ok (.idiv, 1) := by decide +kernel
theorem d_M_onWay_40 : decode b_M_onWay 40 = .ok (.iadd, 1) := by decide +kernel
theorem d_M_onWay_41 : decode b_M_onWay 41 = .ok (.iload 5, 2) := by decide +kernel
theorem d_M_onWay_43 : decode b_M_onWay 43 = .ok (.iload 6, 2) := by decide +kernel
theorem d_M_onWay_45 : decode b_M_onWay 45 = .ok (.irem, 1) := by decide +kernel
theorem d_M_onWay_46 : decode b_M_onWay 46 = .ok (.ifCond .ge 7, 3) := by decide +kernel
theorem d_M_onWay_49 : decode b_M_onWay 49 = .ok (.iconst 1, 1) := by decide +kernel
theorem d_M_onWay_50 : decode b_M_onWay 50 = .ok (.goto 4, 3) := by decide +kernel
theorem d_M_onWay_53 : decode b_M_onWay 53 = .ok (.iconst 0, 1) := by decide +kernel
theorem d_M_onWay_54 : decode b_M_onWay 54 = .ok (.isub, 1) := by decide +kernel
theorem d_M_onWay_55 : decode b_M_onWay 55 = .ok (.ireturn, 1) := by decide +kernel
theorem d_M_onWay_56 : decode b_M_onWay 56 = .ok (.iload_n 2, 1) := by decide +kernel
theorem d_M_onWay_57 : decode b_M_onWay 57 = .ok (.iload_n 3, 1) := by decide +kernel
theorem d_M_onWay_58 : decode b_M_onWay 58 = .ok (.aload_n 0, 1) := by decide +kernel
theorem d_M_onWay_59 : decode b_M_onWay 59 = .ok (.getfield 19, 3) := by decide +kernel
theorem d_M_onWay_62 : decode b_M_onWay 62 = .ok (.iload_n 1, 1) := by decide +kernel
theorem d_M_onWay_63 : decode b_M_onWay 63 = .ok (.iaload, 1) := by decide +kernel
theorem d_M_onWay_64 : decode b_M_onWay 64 = .ok (.aload_n 0, 1) := by decide +kernel
theorem d_M_onWay_65 : decode b_M_onWay 65 = .ok (.getfield 22, 3) := by decide +kernel
theorem d_M_onWay_68 : decode b_M_onWay 68 = .ok (.iload_n 1, 1) := by decide +kernel
theorem d_M_onWay_69 : decode b_M_onWay 69 = .ok (.iaload, 1) := by decide +kernel
theorem d_M_onWay_70 : decode b_M_onWay 70 = .ok (.invokestatic 103, 3) := by decide +kernel
theorem d_M_onWay_73 : decode b_M_onWay 73 = .ok (.iload 4, 2) := by decide +kernel
theorem d_M_onWay_75 : decode b_M_onWay 75 = .ok (.aload_n 0, 1) := by decide +kernel
theorem d_M_onWay_76 : decode b_M_onWay 76 = .ok (.getfield 19, 3) := by decide +kernel
theorem d_M_onWay_79 : decode b_M_onWay 79 = .ok (.iload_n 1, 1) := by decide +kernel
theorem d_M_onWay_80 : decode b_M_onWay 80 = .ok (.iaload, 1) := by decide +kernel
theorem d_M_onWay_81 : decode b_M_onWay 81 = .ok (.isub, 1) := by decide +kernel
theorem d_M_onWay_82 : decode b_M_onWay 82 = .ok (.iload 4, 2) := by decide +kernel
theorem d_M_onWay_84 : decode b_M_onWay 84 = .ok (.aload_n 0, 1) := by decide +kernel
theorem d_M_onWay_85 : decode b_M_onWay 85 = .ok (.getfield 19, 3) := by decide +kernel
theorem d_M_onWay_88 : decode b_M_onWay 88 = .ok (.iload_n 1, 1) := by decide +kernel
theorem d_M_onWay_89 : decode b_M_onWay 89 = .ok (.iaload, 1) := by decide +kernel
theorem d_M_onWay_90 : decode b_M_onWay 90 = .ok (.isub, 1) := by decide +kernel
theorem d_M_onWay_91 : decode b_M_onWay 91 = .ok (.imul, 1) := by decide +kernel
theorem d_M_onWay_92 : decode b_M_onWay 92 = .ok (.isub, 1) := by decide +kernel
theorem d_M_onWay_93 : decode b_M_onWay 93 = .ok (.invokestatic 107, 3) := by decide +kernel
theorem d_M_onWay_96 : decode b_M_onWay 96 = .ok (.istore 5, 2) := by decide +kernel
theorem d_M_onWay_98 : decode b_M_onWay 98 = .ok (.aload_n 0, 1) := by decide +kernel
theorem d_M_onWay_99 : decode b_M_onWay 99 = .ok (.getfield 16, 3) := by decide +kernel
theorem d_M_onWay_102 : decode b_M_onWay 102 = .ok (.iload_n 1, 1) := by decide +kernel
theorem d_M_onWay_103 : decode b_M_onWay 103 = .ok (.iaload, 1) := by decide +kernel
theorem d_M_onWay_104 : decode b_M_onWay 104 = .ok (.iconst 2, 1) := by decide +kernel
theorem d_M_onWay_105 : decode b_M_onWay 105 = .ok (.if_icmp .ne 15, 3) := by decide +kernel
theorem d_M_onWay_108 : decode b_M_onWay 108 = .ok (.aload_n 0, 1) := by decide +kernel
theorem d_M_onWay_109 : decode b_M_onWay 109 = .ok (.getfield 22, 3) := by decide +kernel
theorem d_M_onWay_112 : decode b_M_onWay 112 = .ok (.iload_n 1, 1) := by decide +kernel
theorem d_M_onWay_113 : decode b_M_onWay 113 = .ok (.iaload, 1) := by decide +kernel
theorem d_M_onWay_114 : decode b_M_onWay 114 = .ok (.iload 5, 2) := by decide +kernel
theorem d_M_onWay_116 : decode b_M_onWay 116 = .ok (.iadd, 1) := by decide +kernel
theorem d_M_onWay_117 : decode b_M_onWay 117 = .ok (.goto 12, 3) := by decide +kernel
theorem d_M_onWay_120 : decode b_M_onWay 120 = .ok (.aload_n 0, 1) := by decide +kernel
theorem d_M_onWay_121 : decode b_M_onWay 121 = .ok (.getfield 22, 3) := by decide +kernel
theorem d_M_onWay_124 : decode b_M_onWay 124 = .ok (.iload_n 1, 1) := by decide +kernel
theorem d_M_onWay_125 : decode b_M_onWay 125 = .ok (.iaload, 1) := by decide +kernel
theorem d_M_onWay_126 : decode b_M_onWay 126 = .ok (.iload 5, 2) := by decide +kernel
theorem d_M_onWay_128 : decode b_M_onWay 128 = .ok (.isub, 1) := by decide +kernel
theorem d_M_onWay_129 : decode b_M_onWay 129 = .ok (.istore 6, 2) := by decide +kernel
theorem d_M_onWay_131 : decode b_M_onWay 131 = .ok (.iload 6, 2) := by decide +kernel
theorem d_M_onWay_133 : decode b_M_onWay 133 = .ok (.ifCond .ge 7, 3) := by decide +kernel
theorem d_M_onWay_136 : decode b_M_onWay 136 = .ok (.iconst 0, 1) := by decide +kernel
theorem d_M_onWay_137 : decode b_M_onWay 137 = .ok (.goto 19, 3) := by decide +kernel
theorem d_M_onWay_140 : decode b_M_onWay 140 = .ok (.iload 6, 2) := by decide +kernel
theorem d_M_onWay_142 : decode b_M_onWay 142 = .ok (.sipush 500, 3) := by decide +kernel
theorem d_M_onWay_145 : decode b_M_onWay 145 = .ok (.if_icmp .le 9, 3) := by decide +kernel
theorem d_M_onWay_148 : decode b_M_onWay 148 = .ok (.sipush 500, 3) := by decide +kernel
theorem d_M_onWay_151 : decode b_M_onWay 151 = .ok (.goto 5, 3) := by decide +kernel
theorem d_M_onWay_154 : decode b_M_onWay 154 = .ok (.iload 6, 2) := by decide +kernel
theorem d_M_onWay_156 : decode b_M_onWay 156 = .ok (.ireturn, 1) := by decide +kernel
theorem d_M_partOf_0 : decode b_M_partOf 0 = .ok (.lload_n 0, 1) := by decide +kernel
theorem d_M_partOf_1 : decode b_M_partOf 1 = .ok (.lconst 0, 1) := by decide +kernel
theorem d_M_partOf_2 : decode b_M_partOf 2 = .ok (.lcmp, 1) := by decide +kernel
theorem d_M_partOf_3 : decode b_M_partOf 3 = .ok (.ifCond .ge 8, 3) := by decide +kernel
theorem d_M_partOf_6 : decode b_M_partOf 6 = .ok (.lload_n 0, 1) := by decide +kernel
theorem d_M_partOf_7 : decode b_M_partOf 7 = .ok (.lneg, 1) := by decide +kernel
theorem d_M_partOf_8 : decode b_M_partOf 8 = .ok (.goto 4, 3) := by decide +kernel
theorem d_M_partOf_11 : decode b_M_partOf 11 = .ok (.lload_n 0, 1) := by decide +kernel
theorem d_M_partOf_12 : decode b_M_partOf 12 = .ok (.lstore 5, 2) := by decide +kernel
theorem d_M_partOf_14 : decode b_M_partOf 14 = .ok (.lload_n 2, 1) := by decide +kernel
theorem d_M_partOf_15 : decode b_M_partOf 15 = .ok (.lstore 7, 2) := by decide +kernel
theorem d_M_partOf_17 : decode b_M_partOf 17 = .ok (.lload 7, 2) := by decide +kernel
theorem d_M_partOf_19 : decode b_M_partOf 19 = .ok (.lconst 0, 1) := by decide +kernel
theorem d_M_partOf_20 : decode b_M_partOf 20 = .ok (.lcmp, 1) := by decide +kernel
theorem d_M_partOf_21 : decode b_M_partOf 21 = .ok (.ifCond .eq 21, 3) := by decide +kernel
theorem d_M_partOf_24 : decode b_M_partOf 24 = .ok (.lload 5, 2) := by decide +kernel
theorem d_M_partOf_26 : decode b_M_partOf 26 = .ok (.lload 7, 2) := by decide +kernel
theorem d_M_partOf_28 : decode b_M_partOf 28 = .ok (.lrem, 1) := by decide +kernel
theorem d_M_partOf_29 : decode b_M_partOf 29 = .ok (.lstore 9, 2) := by decide +kernel
theorem d_M_partOf_31 : decode b_M_partOf 31 = .ok (.lload 7, 2) := by decide +kernel
theorem d_M_partOf_33 : decode b_M_partOf 33 = .ok (.lstore 5, 2) := by decide +kernel
theorem d_M_partOf_35 : decode b_M_partOf 35 = .ok (.lload 9, 2) := by decide +kernel
theorem d_M_partOf_37 : decode b_M_partOf 37 = .ok (.lstore 7, 2) := by decide +kernel
theorem d_M_partOf_39 : decode b_M_partOf 39 = .ok (.goto (-22), 3) := by decide +kernel
theorem d_M_partOf_42 : decode b_M_partOf 42 = .ok (.iload 4, 2) := by decide +kernel
theorem d_M_partOf_44 : decode b_M_partOf 44 = .ok (.ifCond .ne 10, 3) := by decide +kernel
theorem d_M_partOf_47 : decode b_M_partOf 47 = .ok (.lload_n 0, 1) := by decide +kernel
theorem d_M_partOf_48 : decode b_M_partOf 48 = .ok (.lload 5, 2) := by decide +kernel
theorem d_M_partOf_50 : decode b_M_partOf 50 = .ok (.ldiv, 1) := by decide +kernel
theorem d_M_partOf_51 : decode b_M_partOf 51 = .ok (.goto 7, 3) := by decide +kernel
theorem d_M_partOf_54 : decode b_M_partOf 54 = .ok (.lload_n 2, 1) := by decide +kernel
theorem d_M_partOf_55 : decode b_M_partOf 55 = .ok (.lload 5, 2) := by decide +kernel
theorem d_M_partOf_57 : decode b_M_partOf 57 = .ok (.ldiv, 1) := by decide +kernel
theorem d_M_partOf_58 : decode b_M_partOf 58 = .ok (.lreturn, 1) := by decide +kernel
theorem d_M_passes_0 : decode b_M_passes 0 = .ok (.aload_n 0, 1) := by decide +kernel
theorem d_M_passes_1 : decode b_M_passes 1 = .ok (.iload_n 1, 1) := by decide +kernel
theorem d_M_passes_2 : decode b_M_passes 2 = .ok (.iload_n 2, 1) := by decide +kernel
theorem d_M_passes_3 : decode b_M_passes 3 = .ok (.iload_n 3, 1) := by decide +kernel
theorem d_M_passes_4 : decode b_M_passes 4 = .ok (.iload 4, 2) := by decide +kernel
theorem d_M_passes_6 : decode b_M_passes 6 = .ok (.invokevirtual 142, 3) := by decide +kernel
theorem d_M_passes_9 : decode b_M_passes 9 = .ok (.aload_n 0, 1) := by decide +kernel
theorem d_M_passes_10 : decode b_M_passes 10 = .ok (.getfield 58, 3) := by decide +kernel
theorem d_M_passes_13 : decode b_M_passes 13 = .ok (.ifCond .le 5, 3) := by decide +kernel
theorem d_M_passes_16 : decode b_M_passes 16 = .ok (.iconst 0, 1) := by decide +kernel
theorem d_M_passes_17 : decode b_M_passes 17 = .ok (.ireturn, 1) := by decide +kernel
theorem d_M_passes_18 : decode b_M_passes 18 = .ok (.aload_n 0, 1) := by decide +kernel
theorem d_M_passes_19 : decode b_M_passes 19 = .ok (.iload_n 1, 1) := by decide +kernel
theorem d_M_passes_20 : decode b_M_passes 20 = .ok (.iload_n 2, 1) := by decide +kernel
theorem d_M_passes_21 : decode b_M_passes 21 = .ok (.invokevirtual 135, 3) := by decide +kernel
theorem d_M_passes_24 : decode b_M_passes 24 = .ok (.iconst 0, 1) := by decide +kernel
theorem d_M_passes_25 : decode b_M_passes 25 = .ok (.istore 5, 2) := by decide +kernel
theorem d_M_passes_27 : decode b_M_passes 27 = .ok (.aload_n 0, 1) := by decide +kernel
theorem d_M_passes_28 : decode b_M_passes 28 = .ok (.iload_n 1, 1) := by decide +kernel
theorem d_M_passes_29 : decode b_M_passes 29 = .ok (.iload 4, 2) := by decide +kernel
theorem d_M_passes_31 : decode b_M_passes 31 = .ok (.aload_n 0, 1) := by decide +kernel
theorem d_M_passes_32 : decode b_M_passes 32 = .ok (.iload_n 1, 1) := by decide +kernel
theorem d_M_passes_33 : decode b_M_passes 33 = .ok (.invokevirtual 127, 3) := by decide +kernel
theorem d_M_passes_36 : decode b_M_passes 36 = .ok (.i2l, 1) := by decide +kernel
theorem d_M_passes_37 : decode b_M_passes 37 = .ok (.iload 5, 2) := by decide +kernel
theorem d_M_passes_39 : decode b_M_passes 39 = .ok (.i2l, 1) := by decide +kernel
theorem d_M_passes_40 : decode b_M_passes 40 = .ok (.iload_n 3, 1) := by decide +kernel
theorem d_M_passes_41 : decode b_M_passes 41 = .ok (.i2l, 1) := by decide +kernel
theorem d_M_passes_42 : decode b_M_passes 42 = .ok (.lmul, 1) := by decide +kernel
theorem d_M_passes_43 : decode b_M_passes 43 = .ok (.lsub, 1) := by decide +kernel
theorem d_M_passes_44 : decode b_M_passes 44 = .ok (.invokevirtual 146, 3) := by decide +kernel
theorem d_M_passes_47 : decode b_M_passes 47 = .ok (.ifCond .le 9, 3) := by decide +kernel
theorem d_M_passes_50 : decode b_M_passes 50 = .ok (.iinc 5 1, 3) := by decide +kernel
theorem d_M_passes_53 : decode b_M_passes 53 = .ok (.goto (-26), 3) := by decide +kernel
theorem d_M_passes_56 : decode b_M_passes 56 = .ok (.iload 5, 2) := by decide +kernel
theorem d_M_passes_58 : decode b_M_passes 58 = .ok (.ireturn, 1) := by decide +kernel
theorem d_M_radius_0 : decode b_M_radius 0 = .ok (.aload_n 0, 1) := by decide +kernel
theorem d_M_radius_1 : decode b_M_radius 1 = .ok (.aload_n 0, 1) := by decide +kernel
theorem d_M_radius_2 : decode b_M_radius 2 = .ok (.iload_n 1, 1) := by decide +kernel
theorem d_M_radius_3 : decode b_M_radius 3 = .ok (.iload_n 2, 1) := by decide +kernel
theorem d_M_radius_4 : decode b_M_radius 4 = .ok (.invokevirtual 121, 3) := by decide +kernel
theorem d_M_radius_7 : decode b_M_radius 7 = .ok (.ifCond .eq 7, 3) := by decide +kernel
theorem d_M_radius_10 : decode b_M_radius 10 = .ok (.iconst 0, 1) := by decide +kernel
theorem d_M_radius_11 : decode b_M_radius 11 = .ok (.goto 4, 3) := by decide +kernel
theorem d_M_radius_14 : decode b_M_radius 14 = .ok (.iconst 1, 1) := by decide +kernel
theorem d_M_radius_15 : decode b_M_radius 15 = .ok (.putfield 58, 3) := by decide +kernel
theorem d_M_radius_18 : decode b_M_radius 18 = .ok (.aload_n 0, 1) := by decide +kernel
theorem d_M_radius_19 : decode b_M_radius 19 = .ok (.getfield 58, 3) := by decide +kernel
theorem d_M_radius_22 : decode b_M_radius 22 = .ok (.ifCond .le 7, 3) := by decide +kernel
theorem d_M_radius_25 : decode b_M_radius 25 = .ok (.iconst 0, 1) := by decide +kernel
theorem d_M_radius_26 : decode b_M_radius 26 = .ok (.goto 14, 3) := by decide +kernel
theorem d_M_radius_29 : decode b_M_radius 29 = .ok (.aload_n 0, 1) := by decide +kernel
theorem d_M_radius_30 : decode b_M_radius 30 = .ok (.getfield 31, 3) := by decide +kernel
theorem d_M_radius_33 : decode b_M_radius 33 = .ok (.bipush 65, 2) := by decide +kernel
theorem d_M_radius_35 : decode b_M_radius 35 = .ok (.iload_n 1, 1) := by decide +kernel
theorem d_M_radius_36 : decode b_M_radius 36 = .ok (.imul, 1) := by decide +kernel
theorem d_M_radius_37 : decode b_M_radius 37 = .ok (.iload_n 2, 1) := by decide +kernel
theorem d_M_radius_38 : decode b_M_radius 38 = .ok (.iadd, 1) := by decide +kernel
theorem d_M_radius_39 : decode b_M_radius 39 = .ok (.iaload, 1) := by decide +kernel
theorem d_M_radius_40 : decode b_M_radius 40 = .ok (.ireturn, 1) := by decide +kernel
theorem d_M_reachAll_0 : decode b_M_reachAll 0 = .ok (.aload_n 0, 1) := by decide +kernel
theorem d_M_reachAll_1 : decode b_M_reachAll 1 = .ok (.getfield 34, 3) := by decide +kernel
theorem d_M_reachAll_4 : decode b_M_reachAll 4 = .ok (.iload_n 2, 1) := by decide +kernel
theorem d_M_reachAll_5 : decode b_M_reachAll 5 = .ok (.iaload, 1) := by decide +kernel
theorem d_M_reachAll_6 : decode b_M_reachAll 6 = .ok (.istore_n 3, 1) := by decide +kernel
theorem d_M_reachAll_7 : decode b_M_reachAll 7 = .ok (.iconst 0, 1) := by decide +kernel
theorem d_M_reachAll_8 : decode b_M_reachAll 8 = .ok (.istore 4, 2) := by decide +kernel
theorem d_M_reachAll_10 : decode b_M_reachAll 10 = .ok (.iload 4, 2) := by decide +kernel
theorem d_M_reachAll_12 : decode b_M_reachAll 12 = .ok (.aload_n 0, 1) := by decide +kernel
theorem d_M_reachAll_13 : decode b_M_reachAll 13 = .ok (.getfield 25, 3) := by decide +kernel
theorem d_M_reachAll_16 : decode b_M_reachAll 16 = .ok (.iload_n 1, 1) := by decide +kernel
theorem d_M_reachAll_17 : decode b_M_reachAll 17 = .ok (.iaload, 1) := by decide +kernel
theorem d_M_reachAll_18 : decode b_M_reachAll 18 = .ok (.if_icmp .gt 118, 3) := by decide +kernel
theorem d_M_reachAll_21 : decode b_M_reachAll 21 = .ok (.aload_n 0, 1) := by decide +kernel
theorem d_M_reachAll_22 : decode b_M_reachAll 22 = .ok (.getfield 37, 3) := by decide +kernel
theorem d_M_reachAll_25 : decode b_M_reachAll 25 = .ok (.iload 4, 2) := by decide +kernel
theorem d_M_reachAll_27 : decode b_M_reachAll 27 = .ok (.iconst 0, 1) := by decide +kernel
theorem d_M_reachAll_28 : decode b_M_reachAll 28 = .ok (.iastore, 1) := by decide +kernel
theorem d_M_reachAll_29 : decode b_M_reachAll 29 = .ok (.iload_n 3, 1) := by decide +kernel
theorem d_M_reachAll_30 : decode b_M_reachAll 30 = .ok (.ineg, 1) := by decide +kernel
theorem d_M_reachAll_31 : decode b_M_reachAll 31 = .ok (.istore 5, 2) := by decide +kernel
theorem d_M_reachAll_33 : decode b_M_reachAll 33 = .ok (.iload 5, 2) := by decide +kernel
theorem d_M_reachAll_35 : decode b_M_reachAll 35 = .ok (.iload_n 3, 1) := by decide +kernel
theorem d_M_reachAll_36 : decode b_M_reachAll 36 = .ok (.if_icmp .gt 94, 3) := by decide +kernel
theorem d_M_reachAll_39 : decode b_M_reachAll 39 = .ok (.iload 4, 2) := by decide +kernel
theorem d_M_reachAll_41 : decode b_M_reachAll 41 = .ok (.iload 5, 2) := by decide +kernel
theorem d_M_reachAll_43 : decode b_M_reachAll 43 = .ok (.iadd, 1) := by decide +kernel
theorem d_M_reachAll_44 : decode b_M_reachAll 44 = .ok (.i2l, 1) := by decide +kernel
theorem d_M_reachAll_45 : decode b_M_reachAll 45 = .ok (.lconst 0, 1) := by decide +kernel
theorem d_M_reachAll_46 : decode b_M_reachAll 46 = .ok (.aload_n 0, 1) := by decide +kernel
theorem d_M_reachAll_47 : decode b_M_reachAll 47 = .ok (.getfield 25, 3) := by decide +kernel
theorem d_M_reachAll_50 : decode b_M_reachAll 50 = .ok (.iload_n 1, 1) := by decide +kernel
theorem d_M_reachAll_51 : decode b_M_reachAll 51 = .ok (.iaload, 1) := by decide +kernel
theorem d_M_reachAll_52 : decode b_M_reachAll 52 = .ok (.i2l, 1) := by decide +kernel
theorem d_M_reachAll_53 : decode b_M_reachAll 53 = .ok (.invokestatic 64, 3) := by decide +kernel
theorem d_M_reachAll_56 : decode b_M_reachAll 56 = .ok (.ifCond .eq 34, 3) := by decide +kernel
theorem d_M_reachAll_59 : decode b_M_reachAll 59 = .ok (.aload_n 0, 1) := by decide +kernel
theorem d_M_reachAll_60 : decode b_M_reachAll 60 = .ok (.getfield 31, 3) := by decide +kernel
theorem d_M_reachAll_63 : decode b_M_reachAll 63 = .ok (.bipush 65, 2) := by decide +kernel
theorem d_M_reachAll_65 : decode b_M_reachAll 65 = .ok (.iload_n 1, 1) := by decide +kernel
theorem d_M_reachAll_66 : decode b_M_reachAll 66 = .ok (.imul, 1) := by decide +kernel
theorem d_M_reachAll_67 : decode b_M_reachAll 67 = .ok (.iload 4, 2) := by decide +kernel
theorem d_M_reachAll_69 : decode b_M_reachAll 69 = .ok (.iadd, 1) := by decide +kernel
theorem d_M_reachAll_70 : decode b_M_reachAll 70 = .ok (.iload 5, 2) := by decide +kernel
theorem d_M_reachAll_72 : decode b_M_reachAll 72 = .ok (.iadd, 1) := by decide +kernel
theorem d_M_reachAll_73 : decode b_M_reachAll 73 = .ok (.iaload, 1) := by decide +kernel
theorem d_M_reachAll_74 : decode b_M_reachAll 74 = .ok (.iload_n 3, 1) := by decide +kernel
theorem d_M_reachAll_75 : decode b_M_reachAll 75 = .ok (.iload_n 3, 1) := by decide +kernel
theorem d_M_reachAll_76 : decode b_M_reachAll 76 = .ok (.imul, 1) := by decide +kernel
theorem d_M_reachAll_77 : decode b_M_reachAll 77 = .ok (.iload 5, 2) := by decide +kernel
theorem d_M_reachAll_79 : decode b_M_reachAll 79 = .ok (.iload 5, 2) := by decide +kernel
theorem d_M_reachAll_81 : decode b_M_reachAll 81 = .ok (.imul, 1) := by decide +kernel
theorem d_M_reachAll_82 : decode b_M_reachAll 82 = .ok (.isub, 1) := by decide +kernel
theorem d_M_reachAll_83 : decode b_M_reachAll 83 = .ok (.invokestatic 107, 3) := by decide +kernel
theorem d_M_reachAll_86 : decode b_M_reachAll 86 = .ok (.iadd, 1) := by decide +kernel
theorem d_M_reachAll_87 : decode b_M_reachAll 87 = .ok (.goto 4, 3) := by decide +kernel
theorem d_M_reachAll_90 : decode b_M_reachAll 90 = .ok (.iconst 0, 1) := by decide +kernel
theorem d_M_reachAll_91 : decode b_M_reachAll 91 = .ok (.istore 6, 2) := by decide +kernel
theorem d_M_reachAll_93 : decode b_M_reachAll 93 = .ok (.aload_n 0, 1) := by decide +kernel
theorem d_M_reachAll_94 : decode b_M_reachAll 94 = .ok (.getfield 37, 3) := by decide +kernel
theorem d_M_reachAll_97 : decode b_M_reachAll 97 = .ok (.iload 4, 2) := by decide +kernel
theorem d_M_reachAll_99 : decode b_M_reachAll 99 = .ok (.iload 6, 2) := by decide +kernel
theorem d_M_reachAll_101 : decode b_M_reachAll 101 = .ok (.aload_n 0, 1) := by decide +kernel
theorem d_M_reachAll_102 : decode b_M_reachAll 102 = .ok (.getfield 37, 3) := by decide +kernel
theorem d_M_reachAll_105 : decode b_M_reachAll 105 = .ok (.iload 4, 2) := by decide +kernel
theorem d_M_reachAll_107 : decode b_M_reachAll 107 = .ok (.iaload, 1) := by decide +kernel
theorem d_M_reachAll_108 : decode b_M_reachAll 108 = .ok (.if_icmp .le 8, 3) := by decide +kernel
theorem d_M_reachAll_111 : decode b_M_reachAll 111 = .ok (.iload 6, 2) := by decide +kernel
theorem d_M_reachAll_113 : decode b_M_reachAll 113 = .ok (.goto 10, 3) := by decide +kernel
theorem d_M_reachAll_116 : decode b_M_reachAll 116 = .ok (.aload_n 0, 1) := by decide +kernel
theorem d_M_reachAll_117 : decode b_M_reachAll 117 = .ok (.getfield 37, 3) := by decide +kernel
theorem d_M_reachAll_120 : decode b_M_reachAll 120 = .ok (.iload 4, 2) := by decide +kernel
theorem d_M_reachAll_122 : decode b_M_reachAll 122 = .ok (.iaload, 1) := by decide +kernel
theorem d_M_reachAll_123 : decode b_M_reachAll 123 = .ok (.iastore, 1) := by decide +kernel
theorem d_M_reachAll_124 : decode b_M_reachAll 124 = .ok (.iinc 5 1, 3) := by decide +kernel
theorem d_M_reachAll_127 : decode b_M_reachAll 127 = .ok (.goto (-94), 3) := by decide +kernel
theorem d_M_reachAll_130 : decode b_M_reachAll 130 = .ok (.iinc 4 1, 3) := by decide +kernel
theorem d_M_reachAll_133 : decode b_M_reachAll 133 = .ok (.goto (-123), 3) := by decide +kernel
theorem d_M_reachAll_136 : decode b_M_reachAll 136 = .ok (.iconst 0, 1) := by decide +kernel
theorem d_M_reachAll_137 : decode b_M_reachAll 137 = .ok (.istore 4, 2) := by decide +kernel
theorem d_M_reachAll_139 : decode b_M_reachAll 139 = .ok (.iload 4, 2) := by decide +kernel
theorem d_M_reachAll_141 : decode b_M_reachAll 141 = .ok (.aload_n 0, 1) := by decide +kernel
theorem d_M_reachAll_142 : decode b_M_reachAll 142 = .ok (.getfield 25, 3) := by decide +kernel
theorem d_M_reachAll_145 : decode b_M_reachAll 145 = .ok (.iload_n 1, 1) := by decide +kernel
theorem d_M_reachAll_146 : decode b_M_reachAll 146 = .ok (.iaload, 1) := by decide +kernel
theorem d_M_reachAll_147 : decode b_M_reachAll 147 = .ok (.if_icmp .gt 117, 3) := by decide +kernel
theorem d_M_reachAll_150 : decode b_M_reachAll 150 = .ok (.aload_n 0, 1) := by decide +kernel
theorem d_M_reachAll_151 : decode b_M_reachAll 151 = .ok (.getfield 40, 3) := by decide +kernel
theorem d_M_reachAll_154 : decode b_M_reachAll 154 = .ok (.iload 4, 2) := by decide +kernel
theorem d_M_reachAll_156 : decode b_M_reachAll 156 = .ok (.sipush 10000, 3) := by decide +kernel
theorem d_M_reachAll_159 : decode b_M_reachAll 159 = .ok (.iastore, 1) := by decide +kernel
theorem d_M_reachAll_160 : decode b_M_reachAll 160 = .ok (.iload_n 3, 1) := by decide +kernel
theorem d_M_reachAll_161 : decode b_M_reachAll 161 = .ok (.ineg, 1) := by decide +kernel
theorem d_M_reachAll_162 : decode b_M_reachAll 162 = .ok (.istore 5, 2) := by decide +kernel
theorem d_M_reachAll_164 : decode b_M_reachAll 164 = .ok (.iload 5, 2) := by decide +kernel
theorem d_M_reachAll_166 : decode b_M_reachAll 166 = .ok (.iload_n 3, 1) := by decide +kernel
theorem d_M_reachAll_167 : decode b_M_reachAll 167 = .ok (.if_icmp .gt 91, 3) := by decide +kernel
theorem d_M_reachAll_170 : decode b_M_reachAll 170 = .ok (.iload 4, 2) := by decide +kernel
theorem d_M_reachAll_172 : decode b_M_reachAll 172 = .ok (.iload 5, 2) := by decide +kernel
theorem d_M_reachAll_174 : decode b_M_reachAll 174 = .ok (.iadd, 1) := by decide +kernel
theorem d_M_reachAll_175 : decode b_M_reachAll 175 = .ok (.i2l, 1) := by decide +kernel
theorem d_M_reachAll_176 : decode b_M_reachAll 176 = .ok (.lconst 0, 1) := by decide +kernel
theorem d_M_reachAll_177 : decode b_M_reachAll 177 = .ok (.aload_n 0, 1) := by decide +kernel
theorem d_M_reachAll_178 : decode b_M_reachAll 178 = .ok (.getfield 25, 3) := by decide +kernel
theorem d_M_reachAll_181 : decode b_M_reachAll 181 = .ok (.iload_n 1, 1) := by decide +kernel
theorem d_M_reachAll_182 : decode b_M_reachAll 182 = .ok (.iaload, 1) := by decide +kernel
theorem d_M_reachAll_183 : decode b_M_reachAll 183 = .ok (.i2l, 1) := by decide +kernel
theorem d_M_reachAll_184 : decode b_M_reachAll 184 = .ok (.invokestatic 64, 3) := by decide +kernel
theorem d_M_reachAll_187 : decode b_M_reachAll 187 = .ok (.ifCond .eq 29, 3) := by decide +kernel
theorem d_M_reachAll_190 : decode b_M_reachAll 190 = .ok (.aload_n 0, 1) := by decide +kernel
theorem d_M_reachAll_191 : decode b_M_reachAll 191 = .ok (.getfield 37, 3) := by decide +kernel
theorem d_M_reachAll_194 : decode b_M_reachAll 194 = .ok (.iload 4, 2) := by decide +kernel
theorem d_M_reachAll_196 : decode b_M_reachAll 196 = .ok (.iload 5, 2) := by decide +kernel
theorem d_M_reachAll_198 : decode b_M_reachAll 198 = .ok (.iadd, 1) := by decide +kernel
theorem d_M_reachAll_199 : decode b_M_reachAll 199 = .ok (.iaload, 1) := by decide +kernel
theorem d_M_reachAll_200 : decode b_M_reachAll 200 = .ok (.iload_n 3, 1) := by decide +kernel
theorem d_M_reachAll_201 : decode b_M_reachAll 201 = .ok (.iload_n 3, 1) := by decide +kernel
theorem d_M_reachAll_202 : decode b_M_reachAll 202 = .ok (.imul, 1) := by decide +kernel
theorem d_M_reachAll_203 : decode b_M_reachAll 203 = .ok (.iload 5, 2) := by decide +kernel
theorem d_M_reachAll_205 : decode b_M_reachAll 205 = .ok (.iload 5, 2) := by decide +kernel
theorem d_M_reachAll_207 : decode b_M_reachAll 207 = .ok (.imul, 1) := by decide +kernel
theorem d_M_reachAll_208 : decode b_M_reachAll 208 = .ok (.isub, 1) := by decide +kernel
theorem d_M_reachAll_209 : decode b_M_reachAll 209 = .ok (.invokestatic 107, 3) := by decide +kernel
theorem d_M_reachAll_212 : decode b_M_reachAll 212 = .ok (.isub, 1) := by decide +kernel
theorem d_M_reachAll_213 : decode b_M_reachAll 213 = .ok (.goto 6, 3) := by decide +kernel
theorem d_M_reachAll_216 : decode b_M_reachAll 216 = .ok (.sipush 10000, 3) := by decide +kernel
theorem d_M_reachAll_219 : decode b_M_reachAll 219 = .ok (.istore 6, 2) := by decide +kernel
theorem d_M_reachAll_221 : decode b_M_reachAll 221 = .ok (.aload_n 0, 1) := by decide +kernel
theorem d_M_reachAll_222 : decode b_M_reachAll 222 = .ok (.getfield 40, 3) := by decide +kernel
theorem d_M_reachAll_225 : decode b_M_reachAll 225 = .ok (.iload 4, 2) := by decide +kernel
theorem d_M_reachAll_227 : decode b_M_reachAll 227 = .ok (.iload 6, 2) := by decide +kernel
theorem d_M_reachAll_229 : decode b_M_reachAll 229 = .ok (.aload_n 0, 1) := by decide +kernel
theorem d_M_reachAll_230 : decode b_M_reachAll 230 = .ok (.getfield 40, 3) := by decide +kernel
theorem d_M_reachAll_233 : decode b_M_reachAll 233 = .ok (.iload 4, 2) := by decide +kernel
theorem d_M_reachAll_235 : decode b_M_reachAll 235 = .ok (.iaload, 1) := by decide +kernel
theorem d_M_reachAll_236 : decode b_M_reachAll 236 = .ok (.if_icmp .ge 8, 3) := by decide +kernel
theorem d_M_reachAll_239 : decode b_M_reachAll 239 = .ok (.iload 6, 2) := by decide +kernel
theorem d_M_reachAll_241 : decode b_M_reachAll 241 = .ok (.goto 10, 3) := by decide +kernel
theorem d_M_reachAll_244 : decode b_M_reachAll 244 = .ok (.aload_n 0, 1) := by decide +kernel
theorem d_M_reachAll_245 : decode b_M_reachAll 245 = .ok (.getfield 40, 3) := by decide +kernel
theorem d_M_reachAll_248 : decode b_M_reachAll 248 = .ok (.iload 4, 2) := by decide +kernel
theorem d_M_reachAll_250 : decode b_M_reachAll 250 = .ok (.iaload, 1) := by decide +kernel
theorem d_M_reachAll_251 : decode b_M_reachAll 251 = .ok (.iastore, 1) := by decide +kernel
theorem d_M_reachAll_252 : decode b_M_reachAll 252 = .ok (.iinc 5 1, 3) := by decide +kernel
theorem d_M_reachAll_255 : decode b_M_reachAll 255 = .ok (.goto (-91), 3) := by decide +kernel
theorem d_M_reachAll_258 : decode b_M_reachAll 258 = .ok (.iinc 4 1, 3) := by decide +kernel
theorem d_M_reachAll_261 : decode b_M_reachAll 261 = .ok (.goto (-122), 3) := by decide +kernel
theorem d_M_reachAll_264 : decode b_M_reachAll 264 = .ok (.return_, 1) := by decide +kernel
theorem d_M_reached_0 : decode b_M_reached 0 = .ok (.aload_n 0, 1) := by decide +kernel
theorem d_M_reached_1 : decode b_M_reached 1 = .ok (.aload_n 0, 1) := by decide +kernel
theorem d_M_reached_2 : decode b_M_reached 2 = .ok (.iload_n 1, 1) := by decide +kernel
theorem d_M_reached_3 : decode b_M_reached 3 = .ok (.iload_n 3, 1) := by decide +kernel
theorem d_M_reached_4 : decode b_M_reached 4 = .ok (.invokevirtual 121, 3) := by decide +kernel
theorem d_M_reached_7 : decode b_M_reached 7 = .ok (.ifCond .eq 23, 3) := by decide +kernel
theorem d_M_reached_10 : decode b_M_reached 10 = .ok (.iload_n 2, 1) := by decide +kernel
theorem d_M_reached_11 : decode b_M_reached 11 = .ok (.i2l, 1) := by decide +kernel
theorem d_M_reached_12 : decode b_M_reached 12 = .ok (.lconst 0, 1) := by decide +kernel
theorem d_M_reached_13 : decode b_M_reached 13 = .ok (.aload_n 0, 1) := by decide +kernel
theorem d_M_reached_14 : decode b_M_reached 14 = .ok (.getfield 132, 3) := by decide +kernel
theorem d_M_reached_17 : decode b_M_reached 17 = .ok (.iconst 1, 1) := by decide +kernel
theorem d_M_reached_18 : decode b_M_reached 18 = .ok (.isub, 1) := by decide +kernel
theorem d_M_reached_19 : decode b_M_reached 19 = .ok (.i2l, 1) := by decide +kernel
theorem d_M_reached_20 : decode b_M_reached 20 = .ok (.invokestatic 64, 3) := by decide +kernel
theorem d_M_reached_23 : decode b_M_reached 23 = .ok (.ifCond .eq 7, 3) := by decide +kernel
theorem d_M_reached_26 : decode b_M_reached 26 = .ok (.iconst 0, 1) := by decide +kernel
theorem d_M_reached_27 : decode b_M_reached 27 = .ok (.goto 4, 3) := by decide +kernel
theorem d_M_reached_30 : decode b_M_reached 30 = .ok (.iconst 1, 1) := by decide +kernel
theorem d_M_reached_31 : decode b_M_reached 31 = .ok (.putfield 58, 3) := by decide +kernel
theorem d_M_reached_34 : decode b_M_reached 34 = .ok (.aload_n 0, 1) := by decide +kernel
theorem d_M_reached_35 : decode b_M_reached 35 = .ok (.getfield 58, 3) := by decide +kernel
theorem d_M_reached_38 : decode b_M_reached 38 = .ok (.ifCond .le 5, 3) := by decide +kernel
theorem d_M_reached_41 : decode b_M_reached 41 = .ok (.iconst 0, 1) := by decide +kernel
theorem d_M_reached_42 : decode b_M_reached 42 = .ok (.ireturn, 1) := by decide +kernel
theorem d_M_reached_43 : decode b_M_reached 43 = .ok (.aload_n 0, 1) := by decide +kernel
theorem d_M_reached_44 : decode b_M_reached 44 = .ok (.iload_n 1, 1) := by decide +kernel
theorem d_M_reached_45 : decode b_M_reached 45 = .ok (.iload_n 2, 1) := by decide +kernel
theorem d_M_reached_46 : decode b_M_reached 46 = .ok (.invokevirtual 135, 3) := by decide +kernel
theorem d_M_reached_49 : decode b_M_reached 49 = .ok (.aload_n 0, 1) := by decide +kernel
theorem d_M_reached_50 : decode b_M_reached 50 = .ok (.getfield 40, 3) := by decide +kernel
theorem d_M_reached_53 : decode b_M_reached 53 = .ok (.iload_n 3, 1) := by decide +kernel
theorem d_M_reached_54 : decode b_M_reached 54 = .ok (.iaload, 1) := by decide +kernel
theorem d_M_reached_55 : decode b_M_reached 55 = .ok (.ireturn, 1) := by decide +kernel
theorem d_M_ring_0 : decode b_M_ring 0 = .ok (.aload_n 0, 1) := by decide +kernel
theorem d_M_ring_1 : decode b_M_ring 1 = .ok (.aload_n 0, 1) := by decide +kernel
theorem d_M_ring_2 : decode b_M_ring 2 = .ok (.getfield 160, 3) := by decide +kernel
theorem d_M_ring_5 : decode b_M_ring 5 = .ok (.bipush 6, 2) := by decide +kernel
theorem d_M_ring_7 : decode b_M_ring 7 = .ok (.if_icmp .ne 7, 3) := by decide +kernel
theorem d_M_ring_10 : decode b_M_ring 10 = .ok (.iconst 1, 1) := by decide +kernel
theorem d_M_ring_11 : decode b_M_ring 11 = .ok (.goto 4, 3) := by decide +kernel
theorem d_M_ring_14 : decode b_M_ring 14 = .ok (.iconst 0, 1) := by decide +kernel
theorem d_M_ring_15 : decode b_M_ring 15 = .ok (.putfield 58, 3) := by decide +kernel
theorem d_M_ring_18 : decode b_M_ring 18 = .ok (.aload_n 0, 1) := by decide +kernel
theorem d_M_ring_19 : decode b_M_ring 19 = .ok (.getfield 58, 3) := by decide +kernel
theorem d_M_ring_22 : decode b_M_ring 22 = .ok (.ifCond .le 5, 3) := by decide +kernel
theorem d_M_ring_25 : decode b_M_ring 25 = .ok (.iconst 0, 1) := by decide +kernel
theorem d_M_ring_26 : decode b_M_ring 26 = .ok (.ireturn, 1) := by decide +kernel
theorem d_M_ring_27 : decode b_M_ring 27 = .ok (.aload_n 0, 1) := by decide +kernel
theorem d_M_ring_28 : decode b_M_ring 28 = .ok (.dup, 1) := by decide +kernel
theorem d_M_ring_29 : decode b_M_ring 29 = .ok (.getfield 160, 3) := by decide +kernel
theorem d_M_ring_32 : decode b_M_ring 32 = .ok (.iconst 1, 1) := by decide +kernel
theorem d_M_ring_33 : decode b_M_ring 33 = .ok (.iadd, 1) := by decide +kernel
theorem d_M_ring_34 : decode b_M_ring 34 = .ok (.putfield 160, 3) := by decide +kernel
theorem d_M_ring_37 : decode b_M_ring 37 = .ok (.aload_n 0, 1) := by decide +kernel
theorem d_M_ring_38 : decode b_M_ring 38 = .ok (.getfield 160, 3) := by decide +kernel
theorem d_M_ring_41 : decode b_M_ring 41 = .ok (.iconst 1, 1) := by decide +kernel
theorem d_M_ring_42 : decode b_M_ring 42 = .ok (.isub, 1) := by decide +kernel
theorem d_M_ring_43 : decode b_M_ring 43 = .ok (.ireturn, 1) := by decide +kernel
theorem d_M_root_0 : decode b_M_root 0 = .ok (.iconst 0, 1) := by decide +kernel
theorem d_M_root_1 : decode b_M_root 1 = .ok (.istore_n 1, 1) := by decide +kernel
theorem d_M_root_2 : decode b_M_root 2 = .ok (.iload_n 1, 1) := by decide +kernel
theorem d_M_root_3 : decode b_M_root 3 = .ok (.iconst 1, 1) := by decide +kernel
theorem d_M_root_4 : decode b_M_root 4 = .ok (.iadd, 1) := by decide +kernel
theorem d_M_root_5 : decode b_M_root 5 = .ok (.iload_n 1, 1) := by decide +kernel
theorem d_M_root_6 : decode b_M_root 6 = .ok (.iconst 1, 1) := by decide +kernel
theorem d_M_root_7 : decode b_M_root 7 = .ok (.iadd, 1) := by decide +kernel
theorem d_M_root_8 : decode b_M_root 8 = .ok (.imul, 1) := by decide +kernel
theorem d_M_root_9 : decode b_M_root 9 = .ok (.iload_n 0, 1) := by decide +kernel
theorem d_M_root_10 : decode b_M_root 10 = .ok (.if_icmp .gt 9, 3) := by decide +kernel
theorem d_M_root_13 : decode b_M_root 13 = .ok (.iinc 1 1, 3) := by decide +kernel
theorem d_M_root_16 : decode b_M_root 16 = .ok (.goto (-14), 3) := by decide +kernel
theorem d_M_root_19 : decode b_M_root 19 = .ok (.iload_n 1, 1) := by decide +kernel
theorem d_M_root_20 : decode b_M_root 20 = .ok (.ireturn, 1) := by decide +kernel
theorem d_M_row_0 : decode b_M_row 0 = .ok (.aload_n 0, 1) := by decide +kernel
theorem d_M_row_1 : decode b_M_row 1 = .ok (.getfield 187, 3) := by decide +kernel
theorem d_M_row_4 : decode b_M_row 4 = .ok (.ifCond .eq 18, 3) := by decide +kernel
theorem d_M_row_7 : decode b_M_row 7 = .ok (.iload_n 1, 1) := by decide +kernel
theorem d_M_row_8 : decode b_M_row 8 = .ok (.aload_n 0, 1) := by decide +kernel
theorem d_M_row_9 : decode b_M_row 9 = .ok (.getfield 52, 3) := by decide +kernel
theorem d_M_row_12 : decode b_M_row 12 = .ok (.aload_n 0, 1) := by decide +kernel
theorem d_M_row_13 : decode b_M_row 13 = .ok (.getfield 187, 3) := by decide +kernel
theorem d_M_row_16 : decode b_M_row 16 = .ok (.iconst 1, 1) := by decide +kernel
theorem d_M_row_17 : decode b_M_row 17 = .ok (.isub, 1) := by decide +kernel
theorem d_M_row_18 : decode b_M_row 18 = .ok (.iaload, 1) := by decide +kernel
theorem d_M_row_19 : decode b_M_row 19 = .ok (.if_icmp .le 7, 3) := by decide +kernel
theorem d_M_row_22 : decode b_M_row 22 = .ok (.iconst 1, 1) := by decide +kernel
theorem d_M_row_23 : decode b_M_row 23 = .ok (.goto 4, 3) := by decide +kernel
theorem d_M_row_26 : decode b_M_row 26 = .ok (.iconst 0, 1) := by decide +kernel
theorem d_M_row_27 : decode b_M_row 27 = .ok (.istore_n 3, 1) := by decide +kernel
theorem d_M_row_28 : decode b_M_row 28 = .ok (.aload_n 0, 1) := by decide +kernel
theorem d_M_row_29 : decode b_M_row 29 = .ok (.iload_n 1, 1) := by decide +kernel
theorem d_M_row_30 : decode b_M_row 30 = .ok (.i2l, 1) := by decide +kernel
theorem d_M_row_31 : decode b_M_row 31 = .ok (.lconst 1, 1) := by decide +kernel
theorem d_M_row_32 : decode b_M_row 32 = .ok (.ldc2_w 62, 3) := by decide +kernel
theorem d_M_row_35 : decode b_M_row 35 = .ok (.invokestatic 64, 3) := by decide +kernel
theorem d_M_row_38 : decode b_M_row 38 = .ok (.ifCond .eq 19, 3) := by decide +kernel
theorem d_M_row_41 : decode b_M_row 41 = .ok (.iload_n 3, 1) := by decide +kernel
theorem d_M_row_42 : decode b_M_row 42 = .ok (.ifCond .eq 15, 3) := by decide +kernel
theorem d_M_row_45 : decode b_M_row 45 = .ok (.iload_n 2, 1) := by decide +kernel
theorem d_M_row_46 : decode b_M_row 46 = .ok (.i2l, 1) := by decide +kernel
theorem d_M_row_47 : decode b_M_row 47 = .ok (.lconst 1, 1) := by decide +kernel
theorem d_M_row_48 : decode b_M_row 48 = .ok (.ldc2_w 190, 3) := by decide +kernel
theorem d_M_row_51 : decode b_M_row 51 = .ok (.invokestatic 64, 3) := by decide +kernel
theorem d_M_row_54 : decode b_M_row 54 = .ok (.ifCond .ne 7, 3) := by decide +kernel
theorem d_M_row_57 : decode b_M_row 57 = .ok (.iconst 1, 1) := by decide +kernel
theorem d_M_row_58 : decode b_M_row 58 = .ok (.goto 17, 3) := by decide +kernel
theorem d_M_row_61 : decode b_M_row 61 = .ok (.aload_n 0, 1) := by decide +kernel
theorem d_M_row_62 : decode b_M_row 62 = .ok (.getfield 187, 3) := by decide +kernel
theorem d_M_row_65 : decode b_M_row 65 = .ok (.bipush 8, 2) := by decide +kernel
theorem d_M_row_67 : decode b_M_row 67 = .ok (.if_icmp .ne 7, 3) := by decide +kernel
theorem d_M_row_70 : decode b_M_row 70 = .ok (.iconst 2, 1) := by decide +kernel
theorem d_M_row_71 : decode b_M_row 71 = .ok (.goto 4, 3) := by decide +kernel
theorem d_M_row_74 : decode b_M_row 74 = .ok (.iconst 0, 1) := by decide +kernel
theorem d_M_row_75 : decode b_M_row 75 = .ok (.putfield 58, 3) := by decide +kernel
theorem d_M_row_78 : decode b_M_row 78 = .ok (.aload_n 0, 1) := by decide +kernel
theorem d_M_row_79 : decode b_M_row 79 = .ok (.getfield 58, 3) := by decide +kernel
theorem d_M_row_82 : decode b_M_row 82 = .ok (.ifCond .le 5, 3) := by decide +kernel
theorem d_M_row_85 : decode b_M_row 85 = .ok (.iconst 0, 1) := by decide +kernel
theorem d_M_row_86 : decode b_M_row 86 = .ok (.ireturn, 1) := by decide +kernel
theorem d_M_row_87 : decode b_M_row 87 = .ok (.aload_n 0, 1) := by decide +kernel
theorem d_M_row_88 : decode b_M_row 88 = .ok (.getfield 52, 3) := by decide +kernel
theorem d_M_row_91 : decode b_M_row 91 = .ok (.aload_n 0, 1) := by decide +kernel
theorem d_M_row_92 : decode b_M_row 92 = .ok (.getfield 187, 3) := by decide +kernel
theorem d_M_row_95 : decode b_M_row 95 = .ok (.iload_n 1, 1) := by decide +kernel
theorem d_M_row_96 : decode b_M_row 96 = .ok (.iastore, 1) := by decide +kernel
theorem d_M_row_97 : decode b_M_row 97 = .ok (.aload_n 0, 1) := by decide +kernel
theorem d_M_row_98 : decode b_M_row 98 = .ok (.getfield 55, 3) := by decide +kernel
theorem d_M_row_101 : decode b_M_row 101 = .ok (.aload_n 0, 1) := by decide +kernel
theorem d_M_row_102 : decode b_M_row 102 = .ok (.getfield 187, 3) := by decide +kernel
theorem d_M_row_105 : decode b_M_row 105 = .ok (.iload_n 2, 1) := by decide +kernel
theorem d_M_row_106 : decode b_M_row 106 = .ok (.iastore, 1) := by decide +kernel
theorem d_M_row_107 : decode b_M_row 107 = .ok (.aload_n 0, 1) := by decide +kernel
theorem d_M_row_108 : decode b_M_row 108 = .ok (.dup, 1) := by decide +kernel
theorem d_M_row_109 : decode b_M_row 109 = .ok (.getfield 187, 3) := by decide +kernel
theorem d_M_row_112 : decode b_M_row 112 = .ok (.iconst 1, 1) := by decide +kernel
theorem d_M_row_113 : decode b_M_row 113 = .ok (.iadd, 1) := by decide +kernel
theorem d_M_row_114 : decode b_M_row 114 = .ok (.putfield 187, 3) := by decide +kernel
theorem d_M_row_117 : decode b_M_row 117 = .ok (.aload_n 0, 1) := by decide +kernel
theorem d_M_row_118 : decode b_M_row 118 = .ok (.getfield 187, 3) := by decide +kernel
theorem d_M_row_121 : decode b_M_row 121 = .ok (.ireturn, 1) := by decide +kernel
theorem d_M_speed_0 : decode b_M_speed 0 = .ok (.aload_n 0, 1) := by decide +kernel
theorem d_M_speed_1 : decode b_M_speed 1 = .ok (.aload_n 0, 1) := by decide +kernel
theorem d_M_speed_2 : decode b_M_speed 2 = .ok (.iload_n 1, 1) := by decide +kernel
theorem d_M_speed_3 : decode b_M_speed 3 = .ok (.iload_n 2, 1) := by decide +kernel
theorem d_M_speed_4 : decode b_M_speed 4 = .ok (.invokevirtual 121, 3) := by decide +kernel
theorem d_M_speed_7 : decode b_M_speed 7 = .ok (.ifCond .ne 7, 3) := by decide +kernel
theorem d_M_speed_10 : decode b_M_speed 10 = .ok (.iconst 1, 1) := by decide +kernel
theorem d_M_speed_11 : decode b_M_speed 11 = .ok (.goto 15, 3) := by decide +kernel
theorem d_M_speed_14 : decode b_M_speed 14 = .ok (.aload_n 0, 1) := by decide +kernel
theorem d_M_speed_15 : decode b_M_speed 15 = .ok (.getfield 187, 3) := by decide +kernel
theorem d_M_speed_18 : decode b_M_speed 18 = .ok (.ifCond .ne 7, 3) := by decide +kernel
theorem d_M_speed_21 : decode b_M_speed 21 = .ok (.iconst 2, 1) := by decide +kernel
theorem d_M_speed_22 : decode b_M_speed 22 = .ok (.goto 4, 3) := by decide +kernel
theorem d_M_speed_25 : decode b_M_speed 25 = .ok (.iconst 0, 1) := by decide +kernel
theorem d_M_speed_26 : decode b_M_speed 26 = .ok (.putfield 58, 3) := by decide +kernel
theorem d_M_speed_29 : decode b_M_speed 29 = .ok (.aload_n 0, 1) := by decide +kernel
theorem d_M_speed_30 : decode b_M_speed 30 = .ok (.getfield 58, 3) := by decide +kernel
theorem d_M_speed_33 : decode b_M_speed 33 = .ok (.ifCond .le 5, 3) := by decide +kernel
theorem d_M_speed_36 : decode b_M_speed 36 = .ok (.iconst 0, 1) := by decide +kernel
theorem d_M_speed_37 : decode b_M_speed 37 = .ok (.ireturn, 1) := by decide +kernel
theorem d_M_speed_38 : decode b_M_speed 38 = .ok (.iconst 0, 1) := by decide +kernel
theorem d_M_speed_39 : decode b_M_speed 39 = .ok (.istore_n 3, 1) := by decide +kernel
theorem d_M_speed_40 : decode b_M_speed 40 = .ok (.iload_n 3, 1) := by decide +kernel
theorem d_M_speed_41 : decode b_M_speed 41 = .ok (.aload_n 0, 1) := by decide +kernel
theorem d_M_speed_42 : decode b_M_speed 42 = .ok (.getfield 187, 3) := by decide +kernel
theorem d_M_speed_45 : decode b_M_speed 45 = .ok (.iconst 1, 1) := by decide +kernel
theorem d_M_speed_46 : decode b_M_speed 46 = .ok (.isub, 1) := by decide +kernel
theorem d_M_speed_47 : decode b_M_speed 47 = .ok (.if_icmp .ge 29, 3) := by decide +kernel
theorem d_M_speed_50 : decode b_M_speed 50 = .ok (.aload_n 0, 1) := by decide +kernel
theorem d_M_speed_51 : decode b_M_speed 51 = .ok (.getfield 52, 3) := by decide +kernel
theorem d_M_speed_54 : decode b_M_speed 54 = .ok (.iload_n 3, 1) := by decide +kernel
theorem d_M_speed_55 : decode b_M_speed 55 = .ok (.iaload, 1) := by decide +kernel
theorem d_M_speed_56 : decode b_M_speed 56 = .ok (.aload_n 0, 1) := by decide +kernel
theorem d_M_speed_57 : decode b_M_speed 57 = .ok (.getfield 31, 3) := by decide +kernel
theorem d_M_speed_60 : decode b_M_speed 60 = .ok (.bipush 65, 2) := by decide +kernel
theorem d_M_speed_62 : decode b_M_speed 62 = .ok (.iload_n 1, 1) := by decide +kernel
theorem d_M_speed_63 : decode b_M_speed 63 = .ok (.imul, 1) := by decide +kernel
theorem d_M_speed_64 : decode b_M_speed 64 = .ok (.iload_n 2, 1) := by decide +kernel
theorem d_M_speed_65 : decode b_M_speed 65 = .ok (.iadd, 1) := by decide +kernel
theorem d_M_speed_66 : decode b_M_speed 66 = .ok (.iaload, 1) := by decide +kernel
theorem d_M_speed_67 : decode b_M_speed 67 = .ok (.if_icmp .ge 9, 3) := by decide +kernel
theorem d_M_speed_70 : decode b_M_speed 70 = .ok (.iinc 3 1, 3) := by decide +kernel
theorem d_M_speed_73 : decode b_M_speed 73 = .ok (.goto (-33), 3) := by decide +kernel
theorem d_M_speed_76 : decode b_M_speed 76 = .ok (.aload_n 0, 1) := by decide +kernel
theorem d_M_speed_77 : decode b_M_speed 77 = .ok (.getfield 55, 3) := by decide +kernel
theorem d_M_speed_80 : decode b_M_speed 80 = .ok (.iload_n 3, 1) := by decide +kernel
theorem d_M_speed_81 : decode b_M_speed 81 = .ok (.iaload, 1) := by decide +kernel
theorem d_M_speed_82 : decode b_M_speed 82 = .ok (.ireturn, 1) := by decide +kernel
theorem d_M_square_0 : decode b_M_square 0 = .ok (.iload_n 0, 1) := by decide +kernel
theorem d_M_square_1 : decode b_M_square 1 = .ok (.iload_n 2, 1) := by decide +kernel
theorem d_M_square_2 : decode b_M_square 2 = .ok (.isub, 1) := by decide +kernel
theorem d_M_square_3 : decode b_M_square 3 = .ok (.iload_n 0, 1) := by decide +kernel
theorem d_M_square_4 : decode b_M_square 4 = .ok (.iload_n 2, 1) := by decide +kernel
theorem d_M_square_5 : decode b_M_square 5 = .ok (.isub, 1) := by decide +kernel
theorem d_M_square_6 : decode b_M_square 6 = .ok (.imul, 1) := by decide +kernel
theorem d_M_square_7 : decode b_M_square 7 = .ok (.iload_n 1, 1) := by decide +kernel
theorem d_M_square_8 : decode b_M_square 8 = .ok (.iload_n 3, 1) := by decide +kernel
theorem d_M_square_9 : decode b_M_square 9 = .ok (.isub, 1) := by decide +kernel
theorem d_M_square_10 : decode b_M_square 10 = .ok (.iload_n 1, 1) := by decide +kernel
theorem d_M_square_11 : decode b_M_square 11 = .ok (.iload_n 3, 1) := by decide +kernel
theorem d_M_square_12 : decode b_M_square 12 = .ok (.isub, 1) := by decide +kernel
theorem d_M_square_13 : decode b_M_square 13 = .ok (.imul, 1) := by decide +kernel
theorem d_M_square_14 : decode b_M_square 14 = .ok (.iadd, 1) := by decide +kernel
theorem d_M_square_15 : decode b_M_square 15 = .ok (.ireturn, 1) := by decide +kernel
theorem d_M_start_0 : decode b_M_start 0 = .ok (.aload_n 0, 1) := by decide +kernel
theorem d_M_start_1 : decode b_M_start 1 = .ok (.iload_n 1, 1) := by decide +kernel
theorem d_M_start_2 : decode b_M_start 2 = .ok (.i2l, 1) := by decide +kernel
theorem d_M_start_3 : decode b_M_start 3 = .ok (.lconst 0, 1) := by decide +kernel
theorem d_M_start_4 : decode b_M_start 4 = .ok (.ldc2_w 62, 3) := by decide +kernel
theorem d_M_start_7 : decode b_M_start 7 = .ok (.invokestatic 64, 3) := by decide +kernel
theorem d_M_start_10 : decode b_M_start 10 = .ok (.ifCond .eq 7, 3) := by decide +kernel
theorem d_M_start_13 : decode b_M_start 13 = .ok (.iconst 0, 1) := by decide +kernel
theorem d_M_start_14 : decode b_M_start 14 = .ok (.goto 4, 3) := by decide +kernel
theorem d_M_start_17 : decode b_M_start 17 = .ok (.iconst 1, 1) := by decide +kernel
theorem d_M_start_18 : decode b_M_start 18 = .ok (.putfield 58, 3) := by decide +kernel
theorem d_M_start_21 : decode b_M_start 21 = .ok (.aload_n 0, 1) := by decide +kernel
theorem d_M_start_22 : decode b_M_start 22 = .ok (.getfield 58, 3) := by decide +kernel
theorem d_M_start_25 : decode b_M_start 25 = .ok (.ifCond .ne 18, 3) := by decide +kernel
theorem d_M_start_28 : decode b_M_start 28 = .ok (.aload_n 0, 1) := by decide +kernel
theorem d_M_start_29 : decode b_M_start 29 = .ok (.iconst 1, 1) := by decide +kernel
theorem d_M_start_30 : decode b_M_start 30 = .ok (.putfield 68, 3) := by decide +kernel
theorem d_M_start_33 : decode b_M_start 33 = .ok (.aload_n 0, 1) := by decide +kernel
theorem d_M_start_34 : decode b_M_start 34 = .ok (.iload_n 1, 1) := by decide +kernel
theorem d_M_start_35 : decode b_M_start 35 = .ok (.putfield 72, 3) := by decide +kernel
theorem d_M_start_38 : decode b_M_start 38 = .ok (.aload_n 0, 1) := by decide +kernel
theorem d_M_start_39 : decode b_M_start 39 = .ok (.iconst 0, 1) := by decide +kernel
theorem d_M_start_40 : decode b_M_start 40 = .ok (.putfield 75, 3) := by decide +kernel
theorem d_M_start_43 : decode b_M_start 43 = .ok (.return_, 1) := by decide +kernel
theorem d_M_steady_0 : decode b_M_steady 0 = .ok (.aload_n 0, 1) := by decide +kernel
theorem d_M_steady_1 : decode b_M_steady 1 = .ok (.aload_n 0, 1) := by decide +kernel
theorem d_M_steady_2 : decode b_M_steady 2 = .ok (.iload_n 1, 1) := by decide +kernel
theorem d_M_steady_3 : decode b_M_steady 3 = .ok (.invokevirtual 117, 3) := by decide +kernel
theorem d_M_steady_6 : decode b_M_steady 6 = .ok (.ifCond .ne 7, 3) := by decide +kernel
theorem d_M_steady_9 : decode b_M_steady 9 = .ok (.iconst 1, 1) := by decide +kernel
theorem d_M_steady_10 : decode b_M_steady 10 = .ok (.goto 24, 3) := by decide +kernel
theorem d_M_steady_13 : decode b_M_steady 13 = .ok (.iload_n 2, 1) := by decide +kernel
theorem d_M_steady_14 : decode b_M_steady 14 = .ok (.i2l, 1) := by decide +kernel
theorem d_M_steady_15 : decode b_M_steady 15 = .ok (.lconst 1, 1) := by decide +kernel
theorem d_M_steady_16 : decode b_M_steady 16 = .ok (.ldc2_w 62, 3) := by decide +kernel
theorem d_M_steady_19 : decode b_M_steady 19 = .ok (.invokestatic 64, 3) := by decide +kernel
theorem d_M_steady_22 : decode b_M_steady 22 = .ok (.ifCond .eq 7, 3) := by decide +kernel
theorem d_M_steady_25 : decode b_M_steady 25 = .ok (.iload_n 3, 1) := by decide +kernel
theorem d_M_steady_26 : decode b_M_steady 26 = .ok (.ifCond .ge 7, 3) := by decide +kernel
theorem d_M_steady_29 : decode b_M_steady 29 = .ok (.iconst 2, 1) := by decide +kernel
theorem d_M_steady_30 : decode b_M_steady 30 = .ok (.goto 4, 3) := by decide +kernel
theorem d_M_steady_33 : decode b_M_steady 33 = .ok (.iconst 0, 1) := by decide +kernel
theorem d_M_steady_34 : decode b_M_steady 34 = .ok (.putfield 58, 3) := by decide +kernel
theorem d_M_steady_37 : decode b_M_steady 37 = .ok (.aload_n 0, 1) := by decide +kernel
theorem d_M_steady_38 : decode b_M_steady 38 = .ok (.getfield 58, 3) := by decide +kernel
theorem d_M_steady_41 : decode b_M_steady 41 = .ok (.ifCond .le 5, 3) := by decide +kernel
theorem d_M_steady_44 : decode b_M_steady 44 = .ok (.iconst 0, 1) := by decide +kernel
theorem d_M_steady_45 : decode b_M_steady 45 = .ok (.ireturn, 1) := by decide +kernel
theorem d_M_steady_46 : decode b_M_steady 46 = .ok (.aload_n 0, 1) := by decide +kernel
theorem d_M_steady_47 : decode b_M_steady 47 = .ok (.iload_n 1, 1) := by decide +kernel
theorem d_M_steady_48 : decode b_M_steady 48 = .ok (.iload_n 2, 1) := by decide +kernel
theorem d_M_steady_49 : decode b_M_steady 49 = .ok (.iconst 0, 1) := by decide +kernel
theorem d_M_steady_50 : decode b_M_steady 50 = .ok (.invokevirtual 150, 3) := by decide +kernel
theorem d_M_steady_53 : decode b_M_steady 53 = .ok (.istore 4, 2) := by decide +kernel
theorem d_M_steady_55 : decode b_M_steady 55 = .ok (.iconst 0, 1) := by decide +kernel
theorem d_M_steady_56 : decode b_M_steady 56 = .ok (.istore 5, 2) := by decide +kernel
theorem d_M_steady_58 : decode b_M_steady 58 = .ok (.iload 5, 2) := by decide +kernel
theorem d_M_steady_60 : decode b_M_steady 60 = .ok (.iload_n 3, 1) := by decide +kernel
theorem d_M_steady_61 : decode b_M_steady 61 = .ok (.if_icmp .ge 30, 3) := by decide +kernel
theorem d_M_steady_64 : decode b_M_steady 64 = .ok (.iload 4, 2) := by decide +kernel
theorem d_M_steady_66 : decode b_M_steady 66 = .ok (.aload_n 0, 1) := by decide +kernel
theorem d_M_steady_67 : decode b_M_steady 67 = .ok (.getfield 25, 3) := by decide +kernel
theorem d_M_steady_70 : decode b_M_steady 70 = .ok (.iload_n 1, 1) := by decide +kernel
theorem d_M_steady_71 : decode b_M_steady 71 = .ok (.iaload, 1) := by decide +kernel
theorem d_M_steady_72 : decode b_M_steady 72 = .ok (.if_icmp .ge 19, 3) := by decide +kernel
theorem d_M_steady_75 : decode b_M_steady 75 = .ok (.aload_n 0, 1) := by decide +kernel
theorem d_M_steady_76 : decode b_M_steady 76 = .ok (.iload_n 1, 1) := by decide +kernel
theorem d_M_steady_77 : decode b_M_steady 77 = .ok (.iload_n 2, 1) := by decide +kernel
theorem d_M_steady_78 : decode b_M_steady 78 = .ok (.iload 4, 2) := by decide +kernel
theorem d_M_steady_80 : decode b_M_steady 80 = .ok (.invokevirtual 150, 3) := by decide +kernel
theorem d_M_steady_83 : decode b_M_steady 83 = .ok (.istore 4, 2) := by decide +kernel
theorem d_M_steady_85 : decode b_M_steady 85 = .ok (.iinc 5 1, 3) := by decide +kernel
theorem d_M_steady_88 : decode b_M_steady 88 = .ok (.goto (-30), 3) := by decide +kernel
theorem d_M_steady_91 : decode b_M_steady 91 = .ok (.aload_n 0, 1) := by decide +kernel
theorem d_M_steady_92 : decode b_M_steady 92 = .ok (.iload 4, 2) := by decide +kernel
theorem d_M_steady_94 : decode b_M_steady 94 = .ok (.aload_n 0, 1) := by decide +kernel
theorem d_M_steady_95 : decode b_M_steady 95 = .ok (.getfield 25, 3) := by decide +kernel
theorem d_M_steady_98 : decode b_M_steady 98 = .ok (.iload_n 1, 1) := by decide +kernel
theorem d_M_steady_99 : decode b_M_steady 99 = .ok (.iaload, 1) := by decide +kernel
theorem d_M_steady_100 : decode b_M_steady 100 = .ok (.if_icmp .lt 7, 3) := by decide +kernel
theorem d_M_steady_103 : decode b_M_steady 103 = .ok (.iconst 3, 1) := by decide +kernel
theorem d_M_steady_104 : decode b_M_steady 104 = .ok (.goto 4, 3) := by decide +kernel
theorem d_M_steady_107 : decode b_M_steady 107 = .ok (.iconst 0, 1) := by decide +kernel
theorem d_M_steady_108 : decode b_M_steady 108 = .ok (.putfield 58, 3) := by decide +kernel
theorem d_M_steady_111 : decode b_M_steady 111 = .ok (.aload_n 0, 1) := by decide +kernel
theorem d_M_steady_112 : decode b_M_steady 112 = .ok (.getfield 58, 3) := by decide +kernel
theorem d_M_steady_115 : decode b_M_steady 115 = .ok (.ifCond .le 7, 3) := by decide +kernel
theorem d_M_steady_118 : decode b_M_steady 118 = .ok (.iconst 0, 1) := by decide +kernel
theorem d_M_steady_119 : decode b_M_steady 119 = .ok (.goto 5, 3) := by decide +kernel
theorem d_M_steady_122 : decode b_M_steady 122 = .ok (.iload 4, 2) := by decide +kernel
theorem d_M_steady_124 : decode b_M_steady 124 = .ok (.ireturn, 1) := by decide +kernel
theorem d_M_thread_0 : decode b_M_thread 0 = .ok (.aload_n 0, 1) := by decide +kernel
theorem d_M_thread_1 : decode b_M_thread 1 = .ok (.iload_n 1, 1) := by decide +kernel
theorem d_M_thread_2 : decode b_M_thread 2 = .ok (.i2l, 1) := by decide +kernel
theorem d_M_thread_3 : decode b_M_thread 3 = .ok (.lconst 1, 1) := by decide +kernel
theorem d_M_thread_4 : decode b_M_thread 4 = .ok (.ldc2_w 177, 3) := by decide +kernel
theorem d_M_thread_7 : decode b_M_thread 7 = .ok (.invokestatic 64, 3) := by decide +kernel
theorem d_M_thread_10 : decode b_M_thread 10 = .ok (.ifCond .eq 19, 3) := by decide +kernel
theorem d_M_thread_13 : decode b_M_thread 13 = .ok (.iload_n 2, 1) := by decide +kernel
theorem d_M_thread_14 : decode b_M_thread 14 = .ok (.i2l, 1) := by decide +kernel
theorem d_M_thread_15 : decode b_M_thread 15 = .ok (.lconst 1, 1) := by decide +kernel
theorem d_M_thread_16 : decode b_M_thread 16 = .ok (.ldc2_w 177, 3) := by decide +kernel
theorem d_M_thread_19 : decode b_M_thread 19 = .ok (.invokestatic 64, 3) := by decide +kernel
theorem d_M_thread_22 : decode b_M_thread 22 = .ok (.ifCond .eq 7, 3) := by decide +kernel
theorem d_M_thread_25 : decode b_M_thread 25 = .ok (.iconst 0, 1) := by decide +kernel
theorem d_M_thread_26 : decode b_M_thread 26 = .ok (.goto 4, 3) := by decide +kernel
theorem d_M_thread_29 : decode b_M_thread 29 = .ok (.iconst 1, 1) := by decide +kernel
theorem d_M_thread_30 : decode b_M_thread 30 = .ok (.putfield 58, 3) := by decide +kernel
theorem d_M_thread_33 : decode b_M_thread 33 = .ok (.aload_n 0, 1) := by decide +kernel
theorem d_M_thread_34 : decode b_M_thread 34 = .ok (.getfield 58, 3) := by decide +kernel
theorem d_M_thread_37 : decode b_M_thread 37 = .ok (.ifCond .ne 13, 3) := by decide +kernel
theorem d_M_thread_40 : decode b_M_thread 40 = .ok (.aload_n 0, 1) := by decide +kernel
theorem d_M_thread_41 : decode b_M_thread 41 = .ok (.iload_n 1, 1) := by decide +kernel
theorem d_M_thread_42 : decode b_M_thread 42 = .ok (.putfield 181, 3) := by decide +kernel
theorem d_M_thread_45 : decode b_M_thread 45 = .ok (.aload_n 0, 1) := by decide +kernel
theorem d_M_thread_46 : decode b_M_thread 46 = .ok (.iload_n 2, 1) := by decide +kernel
theorem d_M_thread_47 : decode b_M_thread 47 = .ok (.putfield 184, 3) := by decide +kernel
theorem d_M_thread_50 : decode b_M_thread 50 = .ok (.return_, 1) := by decide +kernel
theorem d_M_threadAt_0 : decode b_M_threadAt 0 = .ok (.aload_n 0, 1) := by decide +kernel
theorem d_M_threadAt_1 : decode b_M_threadAt 1 = .ok (.iload_n 2, 1) := by decide +kernel
theorem d_M_threadAt_2 : decode b_M_threadAt 2 = .ok (.i2l, 1) := by decide +kernel
theorem d_M_threadAt_3 : decode b_M_threadAt 3 = .ok (.lconst 0, 1) := by decide +kernel
theorem d_M_threadAt_4 : decode b_M_threadAt 4 = .ok (.lconst 1, 1) := by decide +kernel
theorem d_M_threadAt_5 : decode b_M_threadAt 5 = .ok (.invokestatic 64, 3) := by decide +kernel
theorem d_M_threadAt_8 : decode b_M_threadAt 8 = .ok (.ifCond .ne 7, 3) := by decide +kernel
theorem d_M_threadAt_11 : decode b_M_threadAt 11 = .ok (.iconst 1, 1) := by decide +kernel
theorem d_M_threadAt_12 : decode b_M_threadAt 12 = .ok (.goto 31, 3) := by decide +kernel
theorem d_M_threadAt_15 : decode b_M_threadAt 15 = .ok (.iload_n 1, 1) := by decide +kernel
theorem d_M_threadAt_16 : decode b_M_threadAt 16 = .ok (.i2l, 1) := by decide +kernel
theorem d_M_threadAt_17 : decode b_M_threadAt 17 = .ok (.lconst 0, 1) := by decide +kernel
theorem d_M_threadAt_18 : decode b_M_threadAt 18 = .ok (.ldc2_w 156, 3) := by decide +kernel
theorem d_M_threadAt_21 : decode b_M_threadAt 21 = .ok (.invokestatic 64, 3) := by decide +kernel
theorem d_M_threadAt_24 : decode b_M_threadAt 24 = .ok (.ifCond .ne 7, 3) := by decide +kernel
theorem d_M_threadAt_27 : decode b_M_threadAt 27 = .ok (.iconst 2, 1) := by decide +kernel
theorem d_M_threadAt_28 : decode b_M_threadAt 28 = .ok (.goto 15, 3) := by decide +kernel
theorem d_M_threadAt_31 : decode b_M_threadAt 31 = .ok (.aload_n 0, 1) := by decide +kernel
theorem d_M_threadAt_32 : decode b_M_threadAt 32 = .ok (.getfield 184, 3) := by decide +kernel
theorem d_M_threadAt_35 : decode b_M_threadAt 35 = .ok (.ifCond .ne 7, 3) := by decide +kernel
theorem d_M_threadAt_38 : decode b_M_threadAt 38 = .ok (.iconst 3, 1) := by decide +kernel
theorem d_M_threadAt_39 : decode b_M_threadAt 39 = .ok (.goto 4, 3) := by decide +kernel
theorem d_M_threadAt_42 : decode b_M_threadAt 42 = .ok (.iconst 0, 1) := by decide +kernel
theorem d_M_threadAt_43 : decode b_M_threadAt 43 = .ok (.putfield 58, 3) := by decide +kernel
theorem d_M_threadAt_46 : decode b_M_threadAt 46 = .ok (.aload_n 0, 1) := by decide +kernel
theorem d_M_threadAt_47 : decode b_M_threadAt 47 = .ok (.getfield 58, 3) := by decide +kernel
theorem d_M_threadAt_50 : decode b_M_threadAt 50 = .ok (.ifCond .le 7, 3) := by decide +kernel
theorem d_M_threadAt_53 : decode b_M_threadAt 53 = .ok (.lconst 0, 1) := by decide +kernel
theorem d_M_threadAt_54 : decode b_M_threadAt 54 = .ok (.goto 20, 3) := by decide +kernel
theorem d_M_threadAt_57 : decode b_M_threadAt 57 = .ok (.iload_n 1, 1) := by decide +kernel
theorem d_M_threadAt_58 : decode b_M_threadAt 58 = .ok (.i2l, 1) := by decide +kernel
theorem d_M_threadAt_59 : decode b_M_threadAt 59 = .ok (.aload_n 0, 1) := by decide +kernel
theorem d_M_threadAt_60 : decode b_M_threadAt 60 = .ok (.getfield 181, 3) := by decide +kernel
theorem d_M_threadAt_63 : decode b_M_threadAt 63 = .ok (.i2l, 1) := by decide +kernel
theorem d_M_threadAt_64 : decode b_M_threadAt 64 = .ok (.lmul, 1) := by decide +kernel
theorem d_M_threadAt_65 : decode b_M_threadAt 65 = .ok (.aload_n 0, 1) := by decide +kernel
theorem d_M_threadAt_66 : decode b_M_threadAt 66 = .ok (.getfield 184, 3) := by decide +kernel
theorem d_M_threadAt_69 : decode b_M_threadAt 69 = .ok (.i2l, 1) := by decide +kernel
theorem d_M_threadAt_70 : decode b_M_threadAt 70 = .ok (.iload_n 2, 1) := by decide +kernel
theorem d_M_threadAt_71 : decode b_M_threadAt 71 = .ok (.invokestatic 165, 3) := by decide +kernel
theorem d_M_threadAt_74 : decode b_M_threadAt 74 = .ok (.lreturn, 1) := by decide +kernel
theorem d_M_thrown_0 : decode b_M_thrown 0 = .ok (.aload_n 0, 1) := by decide +kernel
theorem d_M_thrown_1 : decode b_M_thrown 1 = .ok (.getfield 58, 3) := by decide +kernel
theorem d_M_thrown_4 : decode b_M_thrown 4 = .ok (.ireturn, 1) := by decide +kernel
theorem d_M_tool_0 : decode b_M_tool 0 = .ok (.aload_n 0, 1) := by decide +kernel
theorem d_M_tool_1 : decode b_M_tool 1 = .ok (.iload_n 1, 1) := by decide +kernel
theorem d_M_tool_2 : decode b_M_tool 2 = .ok (.i2l, 1) := by decide +kernel
theorem d_M_tool_3 : decode b_M_tool 3 = .ok (.lconst 0, 1) := by decide +kernel
theorem d_M_tool_4 : decode b_M_tool 4 = .ok (.ldc2_w 130, 3) := by decide +kernel
theorem d_M_tool_7 : decode b_M_tool 7 = .ok (.invokestatic 64, 3) := by decide +kernel
theorem d_M_tool_10 : decode b_M_tool 10 = .ok (.ifCond .ne 7, 3) := by decide +kernel
theorem d_M_tool_13 : decode b_M_tool 13 = .ok (.iconst 1, 1) := by decide +kernel
theorem d_M_tool_14 : decode b_M_tool 14 = .ok (.goto 17, 3) := by decide +kernel
theorem d_M_tool_17 : decode b_M_tool 17 = .ok (.aload_n 0, 1) := by decide +kernel
theorem d_M_tool_18 : decode b_M_tool 18 = .ok (.getfield 132, 3) := by decide +kernel
theorem d_M_tool_21 : decode b_M_tool 21 = .ok (.bipush 6, 2) := by decide +kernel
theorem d_M_tool_23 : decode b_M_tool 23 = .ok (.if_icmp .ne 7, 3) := by decide +kernel
theorem d_M_tool_26 : decode b_M_tool 26 = .ok (.iconst 2, 1) := by decide +kernel
theorem d_M_tool_27 : decode b_M_tool 27 = .ok (.goto 4, 3) := by decide +kernel
theorem d_M_tool_30 : decode b_M_tool 30 = .ok (.iconst 0, 1) := by decide +kernel
theorem d_M_tool_31 : decode b_M_tool 31 = .ok (.putfield 58, 3) := by decide +kernel
theorem d_M_tool_34 : decode b_M_tool 34 = .ok (.aload_n 0, 1) := by decide +kernel
theorem d_M_tool_35 : decode b_M_tool 35 = .ok (.getfield 58, 3) := by decide +kernel
theorem d_M_tool_38 : decode b_M_tool 38 = .ok (.ifCond .le 5, 3) := by decide +kernel
theorem d_M_tool_41 : decode b_M_tool 41 = .ok (.iconst 0, 1) := by decide +kernel
theorem d_M_tool_42 : decode b_M_tool 42 = .ok (.ireturn, 1) := by decide +kernel
theorem d_M_tool_43 : decode b_M_tool 43 = .ok (.aload_n 0, 1) := by decide +kernel
theorem d_M_tool_44 : decode b_M_tool 44 = .ok (.getfield 34, 3) := by decide +kernel
theorem d_M_tool_47 : decode b_M_tool 47 = .ok (.aload_n 0, 1) := by decide +kernel
theorem d_M_tool_48 : decode b_M_tool 48 = .ok (.getfield 132, 3) := by decide +kernel
theorem d_M_tool_51 : decode b_M_tool 51 = .ok (.iload_n 1, 1) := by decide +kernel
theorem d_M_tool_52 : decode b_M_tool 52 = .ok (.iastore, 1) := by decide +kernel
theorem d_M_tool_53 : decode b_M_tool 53 = .ok (.aload_n 0, 1) := by decide +kernel
theorem d_M_tool_54 : decode b_M_tool 54 = .ok (.dup, 1) := by decide +kernel
theorem d_M_tool_55 : decode b_M_tool 55 = .ok (.getfield 132, 3) := by decide +kernel
theorem d_M_tool_58 : decode b_M_tool 58 = .ok (.iconst 1, 1) := by decide +kernel
theorem d_M_tool_59 : decode b_M_tool 59 = .ok (.iadd, 1) := by decide +kernel
theorem d_M_tool_60 : decode b_M_tool 60 = .ok (.putfield 132, 3) := by decide +kernel
theorem d_M_tool_63 : decode b_M_tool 63 = .ok (.aload_n 0, 1) := by decide +kernel
theorem d_M_tool_64 : decode b_M_tool 64 = .ok (.getfield 132, 3) := by decide +kernel
theorem d_M_tool_67 : decode b_M_tool 67 = .ok (.iconst 1, 1) := by decide +kernel
theorem d_M_tool_68 : decode b_M_tool 68 = .ok (.isub, 1) := by decide +kernel
theorem d_M_tool_69 : decode b_M_tool 69 = .ok (.ireturn, 1) := by decide +kernel
theorem d_M_turn_0 : decode b_M_turn 0 = .ok (.aload_n 0, 1) := by decide +kernel
theorem d_M_turn_1 : decode b_M_turn 1 = .ok (.aload_n 0, 1) := by decide +kernel
theorem d_M_turn_2 : decode b_M_turn 2 = .ok (.getfield 111, 3) := by decide +kernel
theorem d_M_turn_5 : decode b_M_turn 5 = .ok (.bipush 6, 2) := by decide +kernel
theorem d_M_turn_7 : decode b_M_turn 7 = .ok (.if_icmp .eq 17, 3) := by decide +kernel
theorem d_M_turn_10 : decode b_M_turn 10 = .ok (.aload_n 0, 1) := by decide +kernel
theorem d_M_turn_11 : decode b_M_turn 11 = .ok (.getfield 68, 3) := by decide +kernel
theorem d_M_turn_14 : decode b_M_turn 14 = .ok (.ifCond .eq 10, 3) := by decide +kernel
theorem d_M_turn_17 : decode b_M_turn 17 = .ok (.aload_n 0, 1) := by decide +kernel
theorem d_M_turn_18 : decode b_M_turn 18 = .ok (.getfield 75, 3) := by decide +kernel
theorem d_M_turn_21 : decode b_M_turn 21 = .ok (.ifCond .ne 7, 3) := by decide +kernel
theorem d_M_turn_24 : decode b_M_turn 24 = .ok (.iconst 1, 1) := by decide +kernel
theorem d_M_turn_25 : decode b_M_turn 25 = .ok (.goto 4, 3) := by decide +kernel
theorem d_M_turn_28 : decode b_M_turn 28 = .ok (.iconst 0, 1) := by decide +kernel
theorem d_M_turn_29 : decode b_M_turn 29 = .ok (.putfield 58, 3) := by decide +kernel
theorem d_M_turn_32 : decode b_M_turn 32 = .ok (.aload_n 0, 1) := by decide +kernel
theorem d_M_turn_33 : decode b_M_turn 33 = .ok (.getfield 58, 3) := by decide +kernel
theorem d_M_turn_36 : decode b_M_turn 36 = .ok (.ifCond .le 5, 3) := by decide +kernel
theorem d_M_turn_39 : decode b_M_turn 39 = .ok (.iconst 0, 1) := by decide +kernel
theorem d_M_turn_40 : decode b_M_turn 40 = .ok (.ireturn, 1) := by decide +kernel
theorem d_M_turn_41 : decode b_M_turn 41 = .ok (.bipush 65, 2) := by decide +kernel
theorem d_M_turn_43 : decode b_M_turn 43 = .ok (.aload_n 0, 1) := by decide +kernel
theorem d_M_turn_44 : decode b_M_turn 44 = .ok (.getfield 111, 3) := by decide +kernel
theorem d_M_turn_47 : decode b_M_turn 47 = .ok (.imul, 1) := by decide +kernel
theorem d_M_turn_48 : decode b_M_turn 48 = .ok (.istore_n 1, 1) := by decide +kernel
theorem d_M_turn_49 : decode b_M_turn 49 = .ok (.aload_n 0, 1) := by decide +kernel
theorem d_M_turn_50 : decode b_M_turn 50 = .ok (.getfield 31, 3) := by decide +kernel
theorem d_M_turn_53 : decode b_M_turn 53 = .ok (.iload_n 1, 1) := by decide +kernel
theorem d_M_turn_54 : decode b_M_turn 54 = .ok (.aload_n 0, 1) := by decide +kernel
theorem d_M_turn_55 : decode b_M_turn 55 = .ok (.getfield 72, 3) := by decide +kernel
theorem d_M_turn_58 : decode b_M_turn 58 = .ok (.iastore, 1) := by decide +kernel
theorem d_M_turn_59 : decode b_M_turn 59 = .ok (.iconst 0, 1) := by decide +kernel
theorem d_M_turn_60 : decode b_M_turn 60 = .ok (.istore_n 2, 1) := by decide +kernel
theorem d_M_turn_61 : decode b_M_turn 61 = .ok (.aload_n 0, 1) := by decide +kernel
theorem d_M_turn_62 : decode b_M_turn 62 = .ok (.getfield 72, 3) := by decide +kernel
theorem d_M_turn_65 : decode b_M_turn 65 = .ok (.istore_n 3, 1) := by decide +kernel
theorem d_M_turn_66 : decode b_M_turn 66 = .ok (.iconst 0, 1) := by decide +kernel
theorem d_M_turn_67 : decode b_M_turn 67 = .ok (.istore 4, 2) := by decide +kernel
theorem d_M_turn_69 : decode b_M_turn 69 = .ok (.iload 4, 2) := by decide +kernel
theorem d_M_turn_71 : decode b_M_turn 71 = .ok (.aload_n 0, 1) := by decide +kernel
theorem d_M_turn_72 : decode b_M_turn 72 = .ok (.getfield 75, 3) := by decide +kernel
theorem d_M_turn_75 : decode b_M_turn 75 = .ok (.if_icmp .ge 67, 3) := by decide +kernel
theorem d_M_turn_78 : decode b_M_turn 78 = .ok (.iload_n 2, 1) := by decide +kernel
theorem d_M_turn_79 : decode b_M_turn 79 = .ok (.iconst 1, 1) := by decide +kernel
theorem d_M_turn_80 : decode b_M_turn 80 = .ok (.iadd, 1) := by decide +kernel
theorem d_M_turn_81 : decode b_M_turn 81 = .ok (.istore 5, 2) := by decide +kernel
theorem d_M_turn_83 : decode b_M_turn 83 = .ok (.iload 5, 2) := by decide +kernel
theorem d_M_turn_85 : decode b_M_turn 85 = .ok (.aload_n 0, 1) := by decide +kernel
theorem d_M_turn_86 : decode b_M_turn 86 = .ok (.getfield 7, 3) := by decide +kernel
theorem d_M_turn_89 : decode b_M_turn 89 = .ok (.iload 4, 2) := by decide +kernel
theorem d_M_turn_91 : decode b_M_turn 91 = .ok (.iaload, 1) := by decide +kernel
theorem d_M_turn_92 : decode b_M_turn 92 = .ok (.if_icmp .gt 28, 3) := by decide +kernel
theorem d_M_turn_95 : decode b_M_turn 95 = .ok (.aload_n 0, 1) := by decide +kernel
theorem d_M_turn_96 : decode b_M_turn 96 = .ok (.getfield 31, 3) := by decide +kernel
theorem d_M_turn_99 : decode b_M_turn 99 = .ok (.iload_n 1, 1) := by decide +kernel
theorem d_M_turn_100 : decode b_M_turn 100 = .ok (.iload 5, 2) := by decide +kernel
theorem d_M_turn_102 : decode b_M_turn 102 = .ok (.iadd, 1) := by decide +kernel
theorem d_M_turn_103 : decode b_M_turn 103 = .ok (.aload_n 0, 1) := by decide +kernel
theorem d_M_turn_104 : decode b_M_turn 104 = .ok (.iload 4, 2) := by decide +kernel
theorem d_M_turn_106 : decode b_M_turn 106 = .ok (.iload_n 2, 1) := by decide +kernel
theorem d_M_turn_107 : decode b_M_turn 107 = .ok (.iload_n 3, 1) := by decide +kernel
theorem d_M_turn_108 : decode b_M_turn 108 = .ok (.iload 5, 2) := by decide +kernel
theorem d_M_turn_110 : decode b_M_turn 110 = .ok (.invokevirtual 114, 3) := by decide +kernel
theorem d_M_turn_113 : decode b_M_turn 113 = .ok (.iastore, 1) := by decide +kernel
theorem d_M_turn_114 : decode b_M_turn 114 = .ok (.iinc 5 1, 3) := by decide +kernel
theorem d_M_turn_117 : decode b_M_turn 117 = .ok (.goto (-34), 3) := by decide +kernel
theorem d_M_turn_120 : decode b_M_turn 120 = .ok (.aload_n 0, 1) := by decide +kernel
theorem d_M_turn_121 : decode b_M_turn 121 = .ok (.getfield 7, 3) := by decide +kernel
theorem d_M_turn_124 : decode b_M_turn 124 = .ok (.iload 4, 2) := by decide +kernel
theorem d_M_turn_126 : decode b_M_turn 126 = .ok (.iaload, 1) := by decide +kernel
theorem d_M_turn_127 : decode b_M_turn 127 = .ok (.istore_n 2, 1) := by decide +kernel
theorem d_M_turn_128 : decode b_M_turn 128 = .ok (.aload_n 0, 1) := by decide +kernel
theorem d_M_turn_129 : decode b_M_turn 129 = .ok (.getfield 13, 3) := by decide +kernel
theorem d_M_turn_132 : decode b_M_turn 132 = .ok (.iload 4, 2) := by decide +kernel
theorem d_M_turn_134 : decode b_M_turn 134 = .ok (.iaload, 1) := by decide +kernel
theorem d_M_turn_135 : decode b_M_turn 135 = .ok (.istore_n 3, 1) := by decide +kernel
theorem d_M_turn_136 : decode b_M_turn 136 = .ok (.iinc 4 1, 3) := by decide +kernel
theorem d_M_turn_139 : decode b_M_turn 139 = .ok (.goto (-70), 3) := by decide +kernel
theorem d_M_turn_142 : decode b_M_turn 142 = .ok (.aload_n 0, 1) := by decide +kernel
theorem d_M_turn_143 : decode b_M_turn 143 = .ok (.getfield 25, 3) := by decide +kernel
theorem d_M_turn_146 : decode b_M_turn 146 = .ok (.aload_n 0, 1) := by decide +kernel
theorem d_M_turn_147 : decode b_M_turn 147 = .ok (.getfield 111, 3) := by decide +kernel
theorem d_M_turn_150 : decode b_M_turn 150 = .ok (.iload_n 2, 1) := by decide +kernel
theorem d_M_turn_151 : decode b_M_turn 151 = .ok (.iastore, 1) := by decide +kernel
theorem d_M_turn_152 : decode b_M_turn 152 = .ok (.aload_n 0, 1) := by decide +kernel
theorem d_M_turn_153 : decode b_M_turn 153 = .ok (.getfield 28, 3) := by decide +kernel
theorem d_M_turn_156 : decode b_M_turn 156 = .ok (.aload_n 0, 1) := by decide +kernel
theorem d_M_turn_157 : decode b_M_turn 157 = .ok (.getfield 111, 3) := by decide +kernel
theorem d_M_turn_160 : decode b_M_turn 160 = .ok (.aload_n 0, 1) := by decide +kernel
theorem d_M_turn_161 : decode b_M_turn 161 = .ok (.getfield 75, 3) := by decide +kernel
theorem d_M_turn_164 : decode b_M_turn 164 = .ok (.iastore, 1) := by decide +kernel
theorem d_M_turn_165 : decode b_M_turn 165 = .ok (.aload_n 0, 1) := by decide +kernel
theorem d_M_turn_166 : decode b_M_turn 166 = .ok (.dup, 1) := by decide +kernel
theorem d_M_turn_167 : decode b_M_turn 167 = .ok (.getfield 111, 3) := by decide +kernel
theorem d_M_turn_170 : decode b_M_turn 170 = .ok (.iconst 1, 1) := by decide +kernel
theorem d_M_turn_171 : decode b_M_turn 171 = .ok (.iadd, 1) := by decide +kernel
theorem d_M_turn_172 : decode b_M_turn 172 = .ok (.putfield 111, 3) := by decide +kernel
theorem d_M_turn_175 : decode b_M_turn 175 = .ok (.aload_n 0, 1) := by decide +kernel
theorem d_M_turn_176 : decode b_M_turn 176 = .ok (.getfield 111, 3) := by decide +kernel
theorem d_M_turn_179 : decode b_M_turn 179 = .ok (.iconst 1, 1) := by decide +kernel
theorem d_M_turn_180 : decode b_M_turn 180 = .ok (.isub, 1) := by decide +kernel
theorem d_M_turn_181 : decode b_M_turn 181 = .ok (.ireturn, 1) := by decide +kernel
theorem d_M_volume_0 : decode b_M_volume 0 = .ok (.aload_n 0, 1) := by decide +kernel
theorem d_M_volume_1 : decode b_M_volume 1 = .ok (.aload_n 0, 1) := by decide +kernel
theorem d_M_volume_2 : decode b_M_volume 2 = .ok (.iload_n 1, 1) := by decide +kernel
theorem d_M_volume_3 : decode b_M_volume 3 = .ok (.invokevirtual 117, 3) := by decide +kernel
theorem d_M_volume_6 : decode b_M_volume 6 = .ok (.ifCond .eq 7, 3) := by decide +kernel
theorem d_M_volume_9 : decode b_M_volume 9 = .ok (.iconst 0, 1) := by decide +kernel
theorem d_M_volume_10 : decode b_M_volume 10 = .ok (.goto 4, 3) := by decide +kernel
theorem d_M_volume_13 : decode b_M_volume 13 = .ok (.iconst 1, 1) := by decide +kernel
theorem d_M_volume_14 : decode b_M_volume 14 = .ok (.putfield 58, 3) := by decide +kernel
theorem d_M_volume_17 : decode b_M_volume 17 = .ok (.lconst 0, 1) := by decide +kernel
theorem d_M_volume_18 : decode b_M_volume 18 = .ok (.lstore_n 3, 1) := by decide +kernel
theorem d_M_volume_19 : decode b_M_volume 19 = .ok (.iconst 1, 1) := by decide +kernel
theorem d_M_volume_20 : decode b_M_volume 20 = .ok (.istore 5, 2) := by decide +kernel
theorem d_M_volume_22 : decode b_M_volume 22 = .ok (.aload_n 0, 1) := by decide +kernel
theorem d_M_volume_23 : decode b_M_volume 23 = .ok (.getfield 58, 3) := by decide +kernel
theorem d_M_volume_26 : decode b_M_volume 26 = .ok (.ifCond .ne 85, 3) := by decide +kernel
theorem d_M_volume_29 : decode b_M_volume 29 = .ok (.iload 5, 2) := by decide +kernel
theorem d_M_volume_31 : decode b_M_volume 31 = .ok (.aload_n 0, 1) := by decide +kernel
theorem d_M_volume_32 : decode b_M_volume 32 = .ok (.getfield 25, 3) := by decide +kernel
theorem d_M_volume_35 : decode b_M_volume 35 = .ok (.iload_n 1, 1) := by decide +kernel
theorem d_M_volume_36 : decode b_M_volume 36 = .ok (.iaload, 1) := by decide +kernel
theorem d_M_volume_37 : decode b_M_volume 37 = .ok (.if_icmp .gt 74, 3) := by decide +kernel
theorem d_M_volume_40 : decode b_M_volume 40 = .ok (.aload_n 0, 1) := by decide +kernel
theorem d_M_volume_41 : decode b_M_volume 41 = .ok (.getfield 31, 3) := by decide +kernel
theorem d_M_volume_44 : decode b_M_volume 44 = .ok (.bipush 65, 2) := by decide +kernel
theorem d_M_volume_46 : decode b_M_volume 46 = .ok (.iload_n 1, 1) := by decide +kernel
theorem d_M_volume_47 : decode b_M_volume 47 = .ok (.imul, 1) := by decide +kernel
theorem d_M_volume_48 : decode b_M_volume 48 = .ok (.iload 5, 2) := by decide +kernel
theorem d_M_volume_50 : decode b_M_volume 50 = .ok (.iadd, 1) := by decide +kernel
theorem d_M_volume_51 : decode b_M_volume 51 = .ok (.iconst 1, 1) := by decide +kernel
theorem d_M_volume_52 : decode b_M_volume 52 = .ok (.isub, 1) := by decide +kernel
theorem d_M_volume_53 : decode b_M_volume 53 = .ok (.iaload, 1) := by decide +kernel
theorem d_M_volume_54 : decode b_M_volume 54 = .ok (.istore 6, 2) := by decide +kernel
theorem d_M_volume_56 : decode b_M_volume 56 = .ok (.aload_n 0, 1) := by decide +kernel
theorem d_M_volume_57 : decode b_M_volume 57 = .ok (.getfield 31, 3) := by decide +kernel
theorem d_M_volume_60 : decode b_M_volume 60 = .ok (.bipush 65, 2) := by decide +kernel
theorem d_M_volume_62 : decode b_M_volume 62 = .ok (.iload_n 1, 1) := by decide +kernel
theorem d_M_volume_63 : decode b_M_volume 63 = .ok (.imul, 1) := by decide +kernel
theorem d_M_volume_64 : decode b_M_volume 64 = .ok (.iload 5, 2) := by decide +kernel
theorem d_M_volume_66 : decode b_M_volume 66 = .ok (.iadd, 1) := by decide +kernel
theorem d_M_volume_67 : decode b_M_volume 67 = .ok (.iaload, 1) := by decide +kernel
theorem d_M_volume_68 : decode b_M_volume 68 = .ok (.istore 7, 2) := by decide +kernel
theorem d_M_volume_70 : decode b_M_volume 70 = .ok (.iload 6, 2) := by decide +kernel
theorem d_M_volume_72 : decode b_M_volume 72 = .ok (.iload 7, 2) := by decide +kernel
theorem d_M_volume_74 : decode b_M_volume 74 = .ok (.if_icmp .ge 7, 3) := by decide +kernel
theorem d_M_volume_77 : decode b_M_volume 77 = .ok (.iconst 1, 1) := by decide +kernel
theorem d_M_volume_78 : decode b_M_volume 78 = .ok (.goto 4, 3) := by decide +kernel
theorem d_M_volume_81 : decode b_M_volume 81 = .ok (.iconst 0, 1) := by decide +kernel
theorem d_M_volume_82 : decode b_M_volume 82 = .ok (.iload_n 2, 1) := by decide +kernel
theorem d_M_volume_83 : decode b_M_volume 83 = .ok (.if_icmp .ne 8, 3) := by decide +kernel
theorem d_M_volume_86 : decode b_M_volume 86 = .ok (.iload 7, 2) := by decide +kernel
theorem d_M_volume_88 : decode b_M_volume 88 = .ok (.goto 5, 3) := by decide +kernel
theorem d_M_volume_91 : decode b_M_volume 91 = .ok (.iload 6, 2) := by decide +kernel
theorem d_M_volume_93 : decode b_M_volume 93 = .ok (.istore 8, 2) := by decide +kernel
theorem d_M_volume_95 : decode b_M_volume 95 = .ok (.lload_n 3, 1) := by decide +kernel
theorem d_M_volume_96 : decode b_M_volume 96 = .ok (.iload 8, 2) := by decide +kernel
theorem d_M_volume_98 : decode b_M_volume 98 = .ok (.i2l, 1) := by decide +kernel
theorem d_M_volume_99 : decode b_M_volume 99 = .ok (.iload 8, 2) := by decide +kernel
theorem d_M_volume_101 : decode b_M_volume 101 = .ok (.i2l, 1) := by decide +kernel
theorem d_M_volume_102 : decode b_M_volume 102 = .ok (.lmul, 1) := by decide +kernel
theorem d_M_volume_103 : decode b_M_volume 103 = .ok (.ladd, 1) := by decide +kernel
theorem d_M_volume_104 : decode b_M_volume 104 = .ok (.lstore_n 3, 1) := by decide +kernel
theorem d_M_volume_105 : decode b_M_volume 105 = .ok (.iinc 5 1, 3) := by decide +kernel
theorem d_M_volume_108 : decode b_M_volume 108 = .ok (.goto (-86), 3) := by decide +kernel
theorem d_M_volume_111 : decode b_M_volume 111 = .ok (.aload_n 0, 1) := by decide +kernel
theorem d_M_volume_112 : decode b_M_volume 112 = .ok (.getfield 58, 3) := by decide +kernel
theorem d_M_volume_115 : decode b_M_volume 115 = .ok (.ifCond .le 7, 3) := by decide +kernel
theorem d_M_volume_118 : decode b_M_volume 118 = .ok (.lconst 0, 1) := by decide +kernel
theorem d_M_volume_119 : decode b_M_volume 119 = .ok (.goto 30, 3) := by decide +kernel
theorem d_M_volume_122 : decode b_M_volume 122 = .ok (.iload_n 2, 1) := by decide +kernel
theorem d_M_volume_123 : decode b_M_volume 123 = .ok (.ifCond .eq 17, 3) := by decide +kernel
theorem d_M_volume_126 : decode b_M_volume 126 = .ok (.lload_n 3, 1) := by decide +kernel
theorem d_M_volume_127 : decode b_M_volume 127 = .ok (.ldc2_w 154, 3) := by decide +kernel
theorem d_M_volume_130 : decode b_M_volume 130 = .ok (.lmul, 1) := by decide +kernel
theorem d_M_volume_131 : decode b_M_volume 131 = .ok (.ldc2_w 156, 3) := by decide +kernel
theorem d_M_volume_134 : decode b_M_volume 134 = .ok (.ldiv, 1) := by decide +kernel
theorem d_M_volume_135 : decode b_M_volume 135 = .ok (.lconst 1, 1) := by decide +kernel
theorem d_M_volume_136 : decode b_M_volume 136 = .ok (.ladd, 1) := by decide +kernel
theorem d_M_volume_137 : decode b_M_volume 137 = .ok (.goto 12, 3) := by decide +kernel
theorem d_M_volume_140 : decode b_M_volume 140 = .ok (.lload_n 3, 1) := by decide +kernel
theorem d_M_volume_141 : decode b_M_volume 141 = .ok (.ldc2_w 158, 3) := by decide +kernel
theorem d_M_volume_144 : decode b_M_volume 144 = .ok (.lmul, 1) := by decide +kernel
theorem d_M_volume_145 : decode b_M_volume 145 = .ok (.ldc2_w 156, 3) := by decide +kernel
theorem d_M_volume_148 : decode b_M_volume 148 = .ok (.ldiv, 1) := by decide +kernel
theorem d_M_volume_149 : decode b_M_volume 149 = .ok (.lreturn, 1) := by decide +kernel
theorem d_M_wantedBelow_0 : decode b_M_wantedBelow 0 = .ok (.iconst 0, 1) := by decide +kernel
theorem d_M_wantedBelow_1 : decode b_M_wantedBelow 1 = .ok (.istore 5, 2) := by decide +kernel
theorem d_M_wantedBelow_3 : decode b_M_wantedBelow 3 = .ok (.aload_n 0, 1) := by decide +kernel
theorem d_M_wantedBelow_4 : decode b_M_wantedBelow 4 = .ok (.iload_n 1, 1) := by decide +kernel
theorem d_M_wantedBelow_5 : decode b_M_wantedBelow 5 = .ok (.invokevirtual 127, 3) := by decide +kernel
theorem d_M_wantedBelow_8 : decode b_M_wantedBelow 8 = .ok (.istore 6, 2) := by decide +kernel
theorem d_M_wantedBelow_10 : decode b_M_wantedBelow 10 = .ok (.iconst 0, 1) := by decide +kernel
theorem d_M_wantedBelow_11 : decode b_M_wantedBelow 11 = .ok (.istore 7, 2) := by decide +kernel
theorem d_M_wantedBelow_13 : decode b_M_wantedBelow 13 = .ok (.iload 7, 2) := by decide +kernel
theorem d_M_wantedBelow_15 : decode b_M_wantedBelow 15 = .ok (.aload_n 0, 1) := by decide +kernel
theorem d_M_wantedBelow_16 : decode b_M_wantedBelow 16 = .ok (.getfield 25, 3) := by decide +kernel
theorem d_M_wantedBelow_19 : decode b_M_wantedBelow 19 = .ok (.iload_n 1, 1) := by decide +kernel
theorem d_M_wantedBelow_20 : decode b_M_wantedBelow 20 = .ok (.iaload, 1) := by decide +kernel
theorem d_M_wantedBelow_21 : decode b_M_wantedBelow 21 = .ok (.if_icmp .gt 57, 3) := by decide +kernel
theorem d_M_wantedBelow_24 : decode b_M_wantedBelow 24 = .ok (.aload_n 0, 1) := by decide +kernel
theorem d_M_wantedBelow_25 : decode b_M_wantedBelow 25 = .ok (.getfield 40, 3) := by decide +kernel
theorem d_M_wantedBelow_28 : decode b_M_wantedBelow 28 = .ok (.iload 7, 2) := by decide +kernel
theorem d_M_wantedBelow_30 : decode b_M_wantedBelow 30 = .ok (.iaload, 1) := by decide +kernel
theorem d_M_wantedBelow_31 : decode b_M_wantedBelow 31 = .ok (.iload_n 2, 1) := by decide +kernel
theorem d_M_wantedBelow_32 : decode b_M_wantedBelow 32 = .ok (.iadd, 1) := by decide +kernel
theorem d_M_wantedBelow_33 : decode b_M_wantedBelow 33 = .ok (.iload 6, 2) := by decide +kernel
theorem d_M_wantedBelow_35 : decode b_M_wantedBelow 35 = .ok (.if_icmp .le 8, 3) := by decide +kernel
theorem d_M_wantedBelow_38 : decode b_M_wantedBelow 38 = .ok (.iload 6, 2) := by decide +kernel
theorem d_M_wantedBelow_40 : decode b_M_wantedBelow 40 = .ok (.goto 12, 3) := by decide +kernel
theorem d_M_wantedBelow_43 : decode b_M_wantedBelow 43 = .ok (.aload_n 0, 1) := by decide +kernel
theorem d_M_wantedBelow_44 : decode b_M_wantedBelow 44 = .ok (.getfield 40, 3) := by decide +kernel
theorem d_M_wantedBelow_47 : decode b_M_wantedBelow 47 = .ok (.iload 7, 2) := by decide +kernel
theorem d_M_wantedBelow_49 : decode b_M_wantedBelow 49 = .ok (.iaload, 1) := by decide +kernel
theorem d_M_wantedBelow_50 : decode b_M_wantedBelow 50 = .ok (.iload_n 2, 1) := by decide +kernel
theorem d_M_wantedBelow_51 : decode b_M_wantedBelow 51 = .ok (.iadd, 1) := by decide +kernel
theorem d_M_wantedBelow_52 : decode b_M_wantedBelow 52 = .ok (.istore 8, 2) := by decide +kernel
theorem d_M_wantedBelow_54 : decode b_M_wantedBelow 54 = .ok (.iload 5, 2) := by decide +kernel
theorem d_M_wantedBelow_56 : decode b_M_wantedBelow 56 = .ok (.iload 8, 2) := by decide +kernel
theorem d_M_wantedBelow_58 : decode b_M_wantedBelow 58 = .ok (.i2l, 1) := by decide +kernel
theorem d_M_wantedBelow_59 : decode b_M_wantedBelow 59 = .ok (.lload_n 3, 1) := by decide +kernel
theorem d_M_wantedBelow_60 : decode b_M_wantedBelow 60 = .ok (.lcmp, 1) := by decide +kernel
theorem d_M_wantedBelow_61 : decode b_M_wantedBelow 61 = .ok (.ifCond .ge 7, 3) := by decide +kernel
theorem d_M_wantedBelow_64 : decode b_M_wantedBelow 64 = .ok (.iconst 1, 1) := by decide +kernel
theorem d_M_wantedBelow_65 : decode b_M_wantedBelow 65 = .ok (.goto 4, 3) := by decide +kernel
theorem d_M_wantedBelow_68 : decode b_M_wantedBelow 68 = .ok (.iconst 0, 1) := by decide +kernel
theorem d_M_wantedBelow_69 : decode b_M_wantedBelow 69 = .ok (.iadd, 1) := by decide +kernel
theorem d_M_wantedBelow_70 : decode b_M_wantedBelow 70 = .ok (.istore 5, 2) := by decide +kernel
theorem d_M_wantedBelow_72 : decode b_M_wantedBelow 72 = .ok (.iinc 7 1, 3) := by decide +kernel
theorem d_M_wantedBelow_75 : decode b_M_wantedBelow 75 = .ok (.goto (-62), 3) := by decide +kernel
theorem d_M_wantedBelow_78 : decode b_M_wantedBelow 78 = .ok (.iload 5, 2) := by decide +kernel
theorem d_M_wantedBelow_80 : decode b_M_wantedBelow 80 = .ok (.ireturn, 1) := by decide +kernel
theorem d_M_wedge_0 : decode b_M_wedge 0 = .ok (.aload_n 0, 1) := by decide +kernel
theorem d_M_wedge_1 : decode b_M_wedge 1 = .ok (.iload_n 1, 1) := by decide +kernel
theorem d_M_wedge_2 : decode b_M_wedge 2 = .ok (.i2l, 1) := by decide +kernel
theorem d_M_wedge_3 : decode b_M_wedge 3 = .ok (.lconst 0, 1) := by decide +kernel
theorem d_M_wedge_4 : decode b_M_wedge 4 = .ok (.aload_n 0, 1) := by decide +kernel
theorem d_M_wedge_5 : decode b_M_wedge 5 = .ok (.getfield 160, 3) := by decide +kernel
theorem d_M_wedge_8 : decode b_M_wedge 8 = .ok (.iconst 1, 1) := by decide +kernel
theorem d_M_wedge_9 : decode b_M_wedge 9 = .ok (.isub, 1) := by decide +kernel
theorem d_M_wedge_10 : decode b_M_wedge 10 = .ok (.i2l, 1) := by decide +kernel
theorem d_M_wedge_11 : decode b_M_wedge 11 = .ok (.invokestatic 64, 3) := by decide +kernel
theorem d_M_wedge_14 : decode b_M_wedge 14 = .ok (.ifCond .ne 7, 3) := by decide +kernel
theorem d_M_wedge_17 : decode b_M_wedge 17 = .ok (.iconst 1, 1) := by decide +kernel
theorem d_M_wedge_18 : decode b_M_wedge 18 = .ok (.goto 47, 3) := by decide +kernel
theorem d_M_wedge_21 : decode b_M_wedge 21 = .ok (.iload_n 2, 1) := by decide +kernel
theorem d_M_wedge_22 : decode b_M_wedge 22 = .ok (.i2l, 1) := by decide +kernel
theorem d_M_wedge_23 : decode b_M_wedge 23 = .ok (.lconst 1, 1) := by decide +kernel
theorem d_M_wedge_24 : decode b_M_wedge 24 = .ok (.ldc2_w 163, 3) := by decide +kernel
theorem d_M_wedge_27 : decode b_M_wedge 27 = .ok (.invokestatic 64, 3) := by decide +kernel
theorem d_M_wedge_30 : decode b_M_wedge 30 = .ok (.ifCond .eq 15, 3) := by decide +kernel
theorem d_M_wedge_33 : decode b_M_wedge 33 = .ok (.iload_n 3, 1) := by decide +kernel
theorem d_M_wedge_34 : decode b_M_wedge 34 = .ok (.i2l, 1) := by decide +kernel
theorem d_M_wedge_35 : decode b_M_wedge 35 = .ok (.lconst 1, 1) := by decide +kernel
theorem d_M_wedge_36 : decode b_M_wedge 36 = .ok (.ldc2_w 130, 3) := by decide +kernel
theorem d_M_wedge_39 : decode b_M_wedge 39 = .ok (.invokestatic 64, 3) := by decide +kernel
theorem d_M_wedge_42 : decode b_M_wedge 42 = .ok (.ifCond .ne 7, 3) := by decide +kernel
theorem d_M_wedge_45 : decode b_M_wedge 45 = .ok (.iconst 2, 1) := by decide +kernel
theorem d_M_wedge_46 : decode b_M_wedge 46 = .ok (.goto 19, 3) := by decide +kernel
theorem d_M_wedge_49 : decode b_M_wedge 49 = .ok (.aload_n 0, 1) := by decide +kernel
theorem d_M_wedge_50 : decode b_M_wedge 50 = .ok (.getfield 43, 3) := by decide +kernel
theorem d_M_wedge_53 : decode b_M_wedge 53 = .ok (.iload_n 1, 1) := by decide +kernel
theorem d_M_wedge_54 : decode b_M_wedge 54 = .ok (.iaload, 1) := by decide +kernel
theorem d_M_wedge_55 : decode b_M_wedge 55 = .ok (.bipush 16, 2) := by decide +kernel
theorem d_M_wedge_57 : decode b_M_wedge 57 = .ok (.if_icmp .ne 7, 3) := by decide +kernel
theorem d_M_wedge_60 : decode b_M_wedge 60 = .ok (.iconst 3, 1) := by decide +kernel
theorem d_M_wedge_61 : decode b_M_wedge 61 = .ok (.goto 4, 3) := by decide +kernel
theorem d_M_wedge_64 : decode b_M_wedge 64 = .ok (.iconst 0, 1) := by decide +kernel
theorem d_M_wedge_65 : decode b_M_wedge 65 = .ok (.putfield 58, 3) := by decide +kernel
theorem d_M_wedge_68 : decode b_M_wedge 68 = .ok (.aload_n 0, 1) := by decide +kernel
theorem d_M_wedge_69 : decode b_M_wedge 69 = .ok (.getfield 58, 3) := by decide +kernel
theorem d_M_wedge_72 : decode b_M_wedge 72 = .ok (.ifCond .le 5, 3) := by decide +kernel
theorem d_M_wedge_75 : decode b_M_wedge 75 = .ok (.iconst 0, 1) := by decide +kernel
theorem d_M_wedge_76 : decode b_M_wedge 76 = .ok (.ireturn, 1) := by decide +kernel
theorem d_M_wedge_77 : decode b_M_wedge 77 = .ok (.aload_n 0, 1) := by decide +kernel
theorem d_M_wedge_78 : decode b_M_wedge 78 = .ok (.getfield 46, 3) := by decide +kernel
theorem d_M_wedge_81 : decode b_M_wedge 81 = .ok (.bipush 16, 2) := by decide +kernel
theorem d_M_wedge_83 : decode b_M_wedge 83 = .ok (.iload_n 1, 1) := by decide +kernel
theorem d_M_wedge_84 : decode b_M_wedge 84 = .ok (.imul, 1) := by decide +kernel
theorem d_M_wedge_85 : decode b_M_wedge 85 = .ok (.aload_n 0, 1) := by decide +kernel
theorem d_M_wedge_86 : decode b_M_wedge 86 = .ok (.getfield 43, 3) := by decide +kernel
theorem d_M_wedge_89 : decode b_M_wedge 89 = .ok (.iload_n 1, 1) := by decide +kernel
theorem d_M_wedge_90 : decode b_M_wedge 90 = .ok (.iaload, 1) := by decide +kernel
theorem d_M_wedge_91 : decode b_M_wedge 91 = .ok (.iadd, 1) := by decide +kernel
theorem d_M_wedge_92 : decode b_M_wedge 92 = .ok (.iload_n 2, 1) := by decide +kernel
theorem d_M_wedge_93 : decode b_M_wedge 93 = .ok (.iastore, 1) := by decide +kernel
theorem d_M_wedge_94 : decode b_M_wedge 94 = .ok (.aload_n 0, 1) := by decide +kernel
theorem d_M_wedge_95 : decode b_M_wedge 95 = .ok (.getfield 49, 3) := by decide +kernel
theorem d_M_wedge_98 : decode b_M_wedge 98 = .ok (.bipush 16, 2) := by decide +kernel
theorem d_M_wedge_100 : decode b_M_wedge 100 = .ok (.iload_n 1, 1) := by decide +kernel
theorem d_M_wedge_101 : decode b_M_wedge 101 = .ok (.imul, 1) := by decide +kernel
theorem d_M_wedge_102 : decode b_M_wedge 102 = .ok (.aload_n 0, 1) := by decide +kernel
theorem d_M_wedge_103 : decode b_M_wedge 103 = .ok (.getfield 43, 3) := by decide +kernel
theorem d_M_wedge_106 : decode b_M_wedge 106 = .ok (.iload_n 1, 1) := by decide +kernel
theorem d_M_wedge_107 : decode b_M_wedge 107 = .ok (.iaload, 1) := by decide +kernel
theorem d_M_wedge_108 : decode b_M_wedge 108 = .ok (.iadd, 1) := by decide +kernel
theorem d_M_wedge_109 : decode b_M_wedge 109 = .ok (.iload_n 3, 1) := by decide +kernel
theorem d_M_wedge_110 : decode b_M_wedge 110 = .ok (.iastore, 1) := by decide +kernel
theorem d_M_wedge_111 : decode b_M_wedge 111 = .ok (.aload_n 0, 1) := by decide +kernel
theorem d_M_wedge_112 : decode b_M_wedge 112 = .ok (.getfield 43, 3) := by decide +kernel
theorem d_M_wedge_115 : decode b_M_wedge 115 = .ok (.iload_n 1, 1) := by decide +kernel
theorem d_M_wedge_116 : decode b_M_wedge 116 = .ok (.dup2, 1) := by decide +kernel
theorem d_M_wedge_117 : decode b_M_wedge 117 = .ok (.iaload, 1) := by decide +kernel
theorem d_M_wedge_118 : decode b_M_wedge 118 = .ok (.iconst 1, 1) := by decide +kernel
theorem d_M_wedge_119 : decode b_M_wedge 119 = .ok (.iadd, 1) := by decide +kernel
theorem d_M_wedge_120 : decode b_M_wedge 120 = .ok (.iastore, 1) := by decide +kernel
theorem d_M_wedge_121 : decode b_M_wedge 121 = .ok (.aload_n 0, 1) := by decide +kernel
theorem d_M_wedge_122 : decode b_M_wedge 122 = .ok (.getfield 43, 3) := by decide +kernel
theorem d_M_wedge_125 : decode b_M_wedge 125 = .ok (.iload_n 1, 1) := by decide +kernel
theorem d_M_wedge_126 : decode b_M_wedge 126 = .ok (.iaload, 1) := by decide +kernel
theorem d_M_wedge_127 : decode b_M_wedge 127 = .ok (.ireturn, 1) := by decide +kernel
end
section
theorem d_L_law_0 : decode b_L_law 0 = .ok (.new 8, 3) := by decide +kernel
theorem d_L_law_3 : decode b_L_law 3 = .ok (.dup, 1) := by decide +kernel
theorem d_L_law_4 : decode b_L_law 4 = .ok (.invokespecial 103, 3) := by decide +kernel
theorem d_L_law_7 : decode b_L_law 7 = .ok (.astore_n 1, 1) := by decide +kernel
theorem d_L_law_8 : decode b_L_law 8 = .ok (.new 104, 3) := by decide +kernel
theorem d_L_law_11 : decode b_L_law 11 = .ok (.dup, 1) := by decide +kernel
theorem d_L_law_12 : decode b_L_law 12 = .ok (.invokespecial 106, 3) := by decide +kernel
theorem d_L_law_15 : decode b_L_law 15 = .ok (.astore_n 2, 1) := by decide +kernel
theorem d_L_law_16 : decode b_L_law 16 = .ok (.iconst 1, 1) := by decide +kernel
theorem d_L_law_17 : decode b_L_law 17 = .ok (.newarray .long, 2) := by decide +kernel
theorem d_L_law_19 : decode b_L_law 19 = .ok (.astore_n 3, 1) := by decide +kernel
theorem d_L_law_20 : decode b_L_law 20 = .ok (.iconst 0, 1) := by decide +kernel
theorem d_L_law_21 : decode b_L_law 21 = .ok (.istore 4, 2) := by decide +kernel
theorem d_L_law_23 : decode b_L_law 23 = .ok (.iload 4, 2) := by decide +kernel
theorem d_L_law_25 : decode b_L_law 25 = .ok (.aload_n 0, 1) := by decide +kernel
theorem d_L_law_26 : decode b_L_law 26 = .ok (.arraylength, 1) := by decide +kernel
theorem d_L_law_27 : decode b_L_law 27 = .ok (.bipush 6, 2) := by decide +kernel
theorem d_L_law_29 : decode b_L_law 29 = .ok (.isub, 1) := by decide +kernel
theorem d_L_law_30 : decode b_L_law 30 = .ok (.if_icmp .gt 1917, 3) := by decide +kernel
theorem d_L_law_33 : decode b_L_law 33 = .ok (.aload_n 0, 1) := by decide +kernel
theorem d_L_law_34 : decode b_L_law 34 = .ok (.iload 4, 2) := by decide +kernel
theorem d_L_law_36 : decode b_L_law 36 = .ok (.iaload, 1) := by decide +kernel
theorem d_L_law_37 : decode b_L_law 37 = .ok (.bipush 31, 2) := by decide +kernel
theorem d_L_law_39 : decode b_L_law 39 = .ok (.iand, 1) := by decide +kernel
theorem d_L_law_40 : decode b_L_law 40 = .ok (.tableswitch 1901 0 24 #[116, 152, 220, 347, 391, 459, 527, 583, 663, 731, 823, 927, 1007, 1090, 1170, 1238, 1282, 1362, 1441, 1508, 1571, 1650, 1698, 1765, 1833], 116) := by decide +kernel
theorem d_L_law_156 : decode b_L_law 156 = .ok (.aload_n 1, 1) := by decide +kernel
theorem d_L_law_157 : decode b_L_law 157 = .ok (.aload_n 0, 1) := by decide +kernel
theorem d_L_law_158 : decode b_L_law 158 = .ok (.iload 4, 2) := by decide +kernel
theorem d_L_law_160 : decode b_L_law 160 = .ok (.iconst 1, 1) := by decide +kernel
theorem d_L_law_161 : decode b_L_law 161 = .ok (.iadd, 1) := by decide +kernel
theorem d_L_law_162 : decode b_L_law 162 = .ok (.iaload, 1) := by decide +kernel
theorem d_L_law_163 : decode b_L_law 163 = .ok (.invokestatic 107, 3) := by decide +kernel
theorem d_L_law_166 : decode b_L_law 166 = .ok (.istore 5, 2) := by decide +kernel
theorem d_L_law_168 : decode b_L_law 168 = .ok (.aload_n 2, 1) := by decide +kernel
theorem d_L_law_169 : decode b_L_law 169 = .ok (.aload_n 0, 1) := by decide +kernel
theorem d_L_law_170 : decode b_L_law 170 = .ok (.iload 4, 2) := by decide +kernel
theorem d_L_law_172 : decode b_L_law 172 = .ok (.iconst 1, 1) := by decide +kernel
theorem d_L_law_173 : decode b_L_law 173 = .ok (.iadd, 1) := by decide +kernel
theorem d_L_law_174 : decode b_L_law 174 = .ok (.iaload, 1) := by decide +kernel
theorem d_L_law_175 : decode b_L_law 175 = .ok (.invokevirtual 112, 3) := by decide +kernel
theorem d_L_law_178 : decode b_L_law 178 = .ok (.aload_n 2, 1) := by decide +kernel
theorem d_L_law_179 : decode b_L_law 179 = .ok (.invokevirtual 113, 3) := by decide +kernel
theorem d_L_law_182 : decode b_L_law 182 = .ok (.iload 5, 2) := by decide +kernel
theorem d_L_law_184 : decode b_L_law 184 = .ok (.if_icmp .eq 5, 3) := by decide +kernel
theorem d_L_law_187 : decode b_L_law 187 = .ok (.iconst 0, 1) := by decide +kernel
theorem d_L_law_188 : decode b_L_law 188 = .ok (.ireturn, 1) := by decide +kernel
theorem d_L_law_189 : decode b_L_law 189 = .ok (.goto 1752, 3) := by decide +kernel
theorem d_L_law_192 : decode b_L_law 192 = .ok (.aload_n 1, 1) := by decide +kernel
theorem d_L_law_193 : decode b_L_law 193 = .ok (.aload_n 0, 1) := by decide +kernel
theorem d_L_law_194 : decode b_L_law 194 = .ok (.iload 4, 2) := by decide +kernel
theorem d_L_law_196 : decode b_L_law 196 = .ok (.iconst 1, 1) := by decide +kernel
theorem d_L_law_197 : decode b_L_law 197 = .ok (.iadd, 1) := by decide +kernel
theorem d_L_law_198 : decode b_L_law 198 = .ok (.iaload, 1) := by decide +kernel
theorem d_L_law_199 : decode b_L_law 199 = .ok (.aload_n 0, 1) := by decide +kernel
theorem d_L_law_200 : decode b_L_law 200 = .ok (.iload 4, 2) := by decide +kernel
theorem d_L_law_202 : decode b_L_law 202 = .ok (.iconst 2, 1) := by decide +kernel
theorem d_L_law_203 : decode b_L_law 203 = .ok (.iadd, 1) := by decide +kernel
theorem d_L_law_204 : decode b_L_law 204 = .ok (.iaload, 1) := by decide +kernel
theorem d_L_law_205 : decode b_L_law 205 = .ok (.aload_n 3, 1) := by decide +kernel
theorem d_L_law_206 : decode b_L_law 206 = .ok (.invokestatic 116, 3) := by decide +kernel
theorem d_L_law_209 : decode b_L_law 209 = .ok (.istore 5, 2) := by decide +kernel
theorem d_L_law_211 : decode b_L_law 211 = .ok (.aload_n 2, 1) := by decide +kernel
theorem d_L_law_212 : decode b_L_law 212 = .ok (.aload_n 0, 1) := by decide +kernel
theorem d_L_law_213 : decode b_L_law 213 = .ok (.iload 4, 2) := by decide +kernel
theorem d_L_law_215 : decode b_L_law 215 = .ok (.iconst 1, 1) := by decide +kernel
theorem d_L_law_216 : decode b_L_law 216 = .ok (.iadd, 1) := by decide +kernel
theorem d_L_law_217 : decode b_L_law 217 = .ok (.iaload, 1) := by decide +kernel
theorem d_L_law_218 : decode b_L_law 218 = .ok (.aload_n 0, 1) := by decide +kernel
theorem d_L_law_219 : decode b_L_law 219 = .ok (.iload 4, 2) := by decide +kernel
theorem d_L_law_221 : decode b_L_law 221 = .ok (.iconst 2, 1) := by decide +kernel
theorem d_L_law_222 : decode b_L_law 222 = .ok (.iadd, 1) := by decide +kernel
theorem d_L_law_223 : decode b_L_law 223 = .ok (.iaload, 1) := by decide +kernel
theorem d_L_law_224 : decode b_L_law 224 = .ok (.invokevirtual 119, 3) := by decide +kernel
theorem d_L_law_227 : decode b_L_law 227 = .ok (.istore 6, 2) := by decide +kernel
theorem d_L_law_229 : decode b_L_law 229 = .ok (.aload_n 2, 1) := by decide +kernel
theorem d_L_law_230 : decode b_L_law 230 = .ok (.invokevirtual 113, 3) := by decide +kernel
theorem d_L_law_233 : decode b_L_law 233 = .ok (.iload 5, 2) := by decide +kernel
theorem d_L_law_235 : decode b_L_law 235 = .ok (.if_icmp .eq 5, 3) := by decide +kernel
theorem d_L_law_238 : decode b_L_law 238 = .ok (.iconst 0, 1) := by decide +kernel
theorem d_L_law_239 : decode b_L_law 239 = .ok (.ireturn, 1) := by decide +kernel
theorem d_L_law_240 : decode b_L_law 240 = .ok (.iload 5, 2) := by decide +kernel
theorem d_L_law_242 : decode b_L_law 242 = .ok (.ifCond .ne 15, 3) := by decide +kernel
theorem d_L_law_245 : decode b_L_law 245 = .ok (.aload_n 3, 1) := by decide +kernel
theorem d_L_law_246 : decode b_L_law 246 = .ok (.iconst 0, 1) := by decide +kernel
theorem d_L_law_247 : decode b_L_law 247 = .ok (.laload, 1) := by decide +kernel
theorem d_L_law_248 : decode b_L_law 248 = .ok (.iload 6, 2) := by decide +kernel
theorem d_L_law_250 : decode b_L_law 250 = .ok (.i2l, 1) := by decide +kernel
theorem d_L_law_251 : decode b_L_law 251 = .ok (.lcmp, 1) := by decide +kernel
theorem d_L_law_252 : decode b_L_law 252 = .ok (.ifCond .eq 5, 3) := by decide +kernel
theorem d_L_law_255 : decode b_L_law 255 = .ok (.iconst 0, 1) := by decide +kernel
theorem d_L_law_256 : decode b_L_law 256 = .ok (.ireturn, 1) := by decide +kernel
theorem d_L_law_257 : decode b_L_law 257 = .ok (.goto 1684, 3) := by decide +kernel
theorem d_L_law_260 : decode b_L_law 260 = .ok (.aload_n 1, 1) := by decide +kernel
theorem d_L_law_261 : decode b_L_law 261 = .ok (.aload_n 0, 1) := by decide +kernel
theorem d_L_law_262 : decode b_L_law 262 = .ok (.iload 4, 2) := by decide +kernel
theorem d_L_law_264 : decode b_L_law 264 = .ok (.iconst 1, 1) := by decide +kernel
theorem d_L_law_265 : decode b_L_law 265 = .ok (.iadd, 1) := by decide +kernel
theorem d_L_law_266 : decode b_L_law 266 = .ok (.iaload, 1) := by decide +kernel
theorem d_L_law_267 : decode b_L_law 267 = .ok (.aload_n 0, 1) := by decide +kernel
theorem d_L_law_268 : decode b_L_law 268 = .ok (.iload 4, 2) := by decide +kernel
theorem d_L_law_270 : decode b_L_law 270 = .ok (.iconst 2, 1) := by decide +kernel
theorem d_L_law_271 : decode b_L_law 271 = .ok (.iadd, 1) := by decide +kernel
theorem d_L_law_272 : decode b_L_law 272 = .ok (.iaload, 1) := by decide +kernel
theorem d_L_law_273 : decode b_L_law 273 = .ok (.aload_n 0, 1) := by decide +kernel
theorem d_L_law_274 : decode b_L_law 274 = .ok (.iload 4, 2) := by decide +kernel
theorem d_L_law_276 : decode b_L_law 276 = .ok (.iconst 3, 1) := by decide +kernel
theorem d_L_law_277 : decode b_L_law 277 = .ok (.iadd, 1) := by decide +kernel
theorem d_L_law_278 : decode b_L_law 278 = .ok (.iaload, 1) := by decide +kernel
theorem d_L_law_279 : decode b_L_law 279 = .ok (.aload_n 0, 1) := by decide +kernel
theorem d_L_law_280 : decode b_L_law 280 = .ok (.iload 4, 2) := by decide +kernel
theorem d_L_law_282 : decode b_L_law 282 = .ok (.iconst 4, 1) := by decide +kernel
theorem d_L_law_283 : decode b_L_law 283 = .ok (.iadd, 1) := by decide +kernel
theorem d_L_law_284 : decode b_L_law 284 = .ok (.iaload, 1) := by decide +kernel
theorem d_L_law_285 : decode b_L_law 285 = .ok (.aload_n 0, 1) := by decide +kernel
theorem d_L_law_286 : decode b_L_law 286 = .ok (.iload 4, 2) := by decide +kernel
theorem d_L_law_288 : decode b_L_law 288 = .ok (.iconst 5, 1) := by decide +kernel
theorem d_L_law_289 : decode b_L_law 289 = .ok (.iadd, 1) := by decide +kernel
theorem d_L_law_290 : decode b_L_law 290 = .ok (.iaload, 1) := by decide +kernel
theorem d_L_law_291 : decode b_L_law 291 = .ok (.ifCond .eq 7, 3) := by decide +kernel
theorem d_L_law_294 : decode b_L_law 294 = .ok (.iconst 1, 1) := by decide +kernel
theorem d_L_law_295 : decode b_L_law 295 = .ok (.goto 4, 3) := by decide +kernel
theorem d_L_law_298 : decode b_L_law 298 = .ok (.iconst 0, 1) := by decide +kernel
theorem d_L_law_299 : decode b_L_law 299 = .ok (.aload_n 3, 1) := by decide +kernel
theorem d_L_law_300 : decode b_L_law 300 = .ok (.invokestatic 120, 3) := by decide +kernel
theorem d_L_law_303 : decode b_L_law 303 = .ok (.istore 5, 2) := by decide +kernel
theorem d_L_law_305 : decode b_L_law 305 = .ok (.aload_n 2, 1) := by decide +kernel
theorem d_L_law_306 : decode b_L_law 306 = .ok (.aload_n 0, 1) := by decide +kernel
theorem d_L_law_307 : decode b_L_law 307 = .ok (.iload 4, 2) := by decide +kernel
theorem d_L_law_309 : decode b_L_law 309 = .ok (.iconst 1, 1) := by decide +kernel
theorem d_L_law_310 : decode b_L_law 310 = .ok (.iadd, 1) := by decide +kernel
theorem d_L_law_311 : decode b_L_law 311 = .ok (.iaload, 1) := by decide +kernel
theorem d_L_law_312 : decode b_L_law 312 = .ok (.aload_n 0, 1) := by decide +kernel
theorem d_L_law_313 : decode b_L_law 313 = .ok (.iload 4, 2) := by decide +kernel
theorem d_L_law_315 : decode b_L_law 315 = .ok (.iconst 2, 1) := by decide +kernel
theorem d_L_law_316 : decode b_L_law 316 = .ok (.iadd, 1) := by decide +kernel
theorem d_L_law_317 : decode b_L_law 317 = .ok (.iaload, 1) := by decide +kernel
theorem d_L_law_318 : decode b_L_law 318 = .ok (.aload_n 0, 1) := by decide +kernel
theorem d_L_law_319 : decode b_L_law 319 = .ok (.iload 4, 2) := by decide +kernel
theorem d_L_law_321 : decode b_L_law 321 = .ok (.iconst 3, 1) := by decide +kernel
theorem d_L_law_322 : decode b_L_law 322 = .ok (.iadd, 1) := by decide +kernel
theorem d_L_law_323 : decode b_L_law 323 = .ok (.iaload, 1) := by decide +kernel
theorem d_L_law_324 : decode b_L_law 324 = .ok (.aload_n 0, 1) := by decide +kernel
theorem d_L_law_325 : decode b_L_law 325 = .ok (.iload 4, 2) := by decide +kernel
theorem d_L_law_327 : decode b_L_law 327 = .ok (.iconst 4, 1) := by decide +kernel
theorem d_L_law_328 : decode b_L_law 328 = .ok (.iadd, 1) := by decide +kernel
theorem d_L_law_329 : decode b_L_law 329 = .ok (.iaload, 1) := by decide +kernel
theorem d_L_law_330 : decode b_L_law 330 = .ok (.aload_n 0, 1) := by decide +kernel
theorem d_L_law_331 : decode b_L_law 331 = .ok (.iload 4, 2) := by decide +kernel
theorem d_L_law_333 : decode b_L_law 333 = .ok (.iconst 5, 1) := by decide +kernel
theorem d_L_law_334 : decode b_L_law 334 = .ok (.iadd, 1) := by decide +kernel
theorem d_L_law_335 : decode b_L_law 335 = .ok (.iaload, 1) := by decide +kernel
theorem d_L_law_336 : decode b_L_law 336 = .ok (.ifCond .eq 7, 3) := by decide +kernel
theorem d_L_law_339 : decode b_L_law 339 = .ok (.iconst 1, 1) := by decide +kernel
theorem d_L_law_340 : decode b_L_law 340 = .ok (.goto 4, 3) := by decide +kernel
theorem d_L_law_343 : decode b_L_law 343 = .ok (.iconst 0, 1) := by decide +kernel
theorem d_L_law_344 : decode b_L_law 344 = .ok (.invokevirtual 123, 3) := by decide +kernel
theorem d_L_law_347 : decode b_L_law 347 = .ok (.istore 6, 2) := by decide +kernel
theorem d_L_law_349 : decode b_L_law 349 = .ok (.aload_n 2, 1) := by decide +kernel
theorem d_L_law_350 : decode b_L_law 350 = .ok (.invokevirtual 113, 3) := by decide +kernel
theorem d_L_law_353 : decode b_L_law 353 = .ok (.iload 5, 2) := by decide +kernel
theorem d_L_law_355 : decode b_L_law 355 = .ok (.if_icmp .eq 5, 3) := by decide +kernel
theorem d_L_law_358 : decode b_L_law 358 = .ok (.iconst 0, 1) := by decide +kernel
theorem d_L_law_359 : decode b_L_law 359 = .ok (.ireturn, 1) := by decide +kernel
theorem d_L_law_360 : decode b_L_law 360 = .ok (.iload 5, 2) := by decide +kernel
theorem d_L_law_362 : decode b_L_law 362 = .ok (.ifCond .ne 22, 3) := by decide +kernel
theorem d_L_law_365 : decode b_L_law 365 = .ok (.aload_n 3, 1) := by decide +kernel
theorem d_L_law_366 : decode b_L_law 366 = .ok (.iconst 0, 1) := by decide +kernel
theorem d_L_law_367 : decode b_L_law 367 = .ok (.laload, 1) := by decide +kernel
theorem d_L_law_368 : decode b_L_law 368 = .ok (.iload 6, 2) := by decide +kernel
theorem d_L_law_370 : decode b_L_law 370 = .ok (.ifCond .eq 7, 3) := by decide +kernel
theorem d_L_law_373 : decode b_L_law 373 = .ok (.lconst 1, 1) := by decide +kernel
theorem d_L_law_374 : decode b_L_law 374 = .ok (.goto 4, 3) := by decide +kernel
theorem d_L_law_377 : decode b_L_law 377 = .ok (.lconst 0, 1) := by decide +kernel
theorem d_L_law_378 : decode b_L_law 378 = .ok (.lcmp, 1) := by decide +kernel
theorem d_L_law_379 : decode b_L_law 379 = .ok (.ifCond .eq 5, 3) := by decide +kernel
theorem d_L_law_382 : decode b_L_law 382 = .ok (.iconst 0, 1) := by decide +kernel
theorem d_L_law_383 : decode b_L_law 383 = .ok (.ireturn, 1) := by decide +kernel
theorem d_L_law_384 : decode b_L_law 384 = .ok (.goto 1557, 3) := by decide +kernel
theorem d_L_law_387 : decode b_L_law 387 = .ok (.aload_n 1, 1) := by decide +kernel
theorem d_L_law_388 : decode b_L_law 388 = .ok (.aload_n 3, 1) := by decide +kernel
theorem d_L_law_389 : decode b_L_law 389 = .ok (.invokestatic 124, 3) := by decide +kernel
theorem d_L_law_392 : decode b_L_law 392 = .ok (.istore 5, 2) := by decide +kernel
theorem d_L_law_394 : decode b_L_law 394 = .ok (.aload_n 2, 1) := by decide +kernel
theorem d_L_law_395 : decode b_L_law 395 = .ok (.invokevirtual 127, 3) := by decide +kernel
theorem d_L_law_398 : decode b_L_law 398 = .ok (.istore 6, 2) := by decide +kernel
theorem d_L_law_400 : decode b_L_law 400 = .ok (.aload_n 2, 1) := by decide +kernel
theorem d_L_law_401 : decode b_L_law 401 = .ok (.invokevirtual 113, 3) := by decide +kernel
theorem d_L_law_404 : decode b_L_law 404 = .ok (.iload 5, 2) := by decide +kernel
theorem d_L_law_406 : decode b_L_law 406 = .ok (.if_icmp .eq 5, 3) := by decide +kernel
theorem d_L_law_409 : decode b_L_law 409 = .ok (.iconst 0, 1) := by decide +kernel
theorem d_L_law_410 : decode b_L_law 410 = .ok (.ireturn, 1) := by decide +kernel
theorem d_L_law_411 : decode b_L_law 411 = .ok (.iload 5, 2) := by decide +kernel
theorem d_L_law_413 : decode b_L_law 413 = .ok (.ifCond .ne 15, 3) := by decide +kernel
theorem d_L_law_416 : decode b_L_law 416 = .ok (.aload_n 3, 1) := by decide +kernel
theorem d_L_law_417 : decode b_L_law 417 = .ok (.iconst 0, 1) := by decide +kernel
theorem d_L_law_418 : decode b_L_law 418 = .ok (.laload, 1) := by decide +kernel
theorem d_L_law_419 : decode b_L_law 419 = .ok (.iload 6, 2) := by decide +kernel
theorem d_L_law_421 : decode b_L_law 421 = .ok (.i2l, 1) := by decide +kernel
theorem d_L_law_422 : decode b_L_law 422 = .ok (.lcmp, 1) := by decide +kernel
theorem d_L_law_423 : decode b_L_law 423 = .ok (.ifCond .eq 5, 3) := by decide +kernel
theorem d_L_law_426 : decode b_L_law 426 = .ok (.iconst 0, 1) := by decide +kernel
theorem d_L_law_427 : decode b_L_law 427 = .ok (.ireturn, 1) := by decide +kernel
theorem d_L_law_428 : decode b_L_law 428 = .ok (.goto 1513, 3) := by decide +kernel
theorem d_L_law_431 : decode b_L_law 431 = .ok (.aload_n 1, 1) := by decide +kernel
theorem d_L_law_432 : decode b_L_law 432 = .ok (.aload_n 0, 1) := by decide +kernel
theorem d_L_law_433 : decode b_L_law 433 = .ok (.iload 4, 2) := by decide +kernel
theorem d_L_law_435 : decode b_L_law 435 = .ok (.iconst 1, 1) := by decide +kernel
theorem d_L_law_436 : decode b_L_law 436 = .ok (.iadd, 1) := by decide +kernel
theorem d_L_law_437 : decode b_L_law 437 = .ok (.iaload, 1) := by decide +kernel
theorem d_L_law_438 : decode b_L_law 438 = .ok (.aload_n 0, 1) := by decide +kernel
theorem d_L_law_439 : decode b_L_law 439 = .ok (.iload 4, 2) := by decide +kernel
theorem d_L_law_441 : decode b_L_law 441 = .ok (.iconst 2, 1) := by decide +kernel
theorem d_L_law_442 : decode b_L_law 442 = .ok (.iadd, 1) := by decide +kernel
theorem d_L_law_443 : decode b_L_law 443 = .ok (.iaload, 1) := by decide +kernel
theorem d_L_law_444 : decode b_L_law 444 = .ok (.aload_n 3, 1) := by decide +kernel
theorem d_L_law_445 : decode b_L_law 445 = .ok (.invokestatic 128, 3) := by decide +kernel
theorem d_L_law_448 : decode b_L_law 448 = .ok (.istore 5, 2) := by decide +kernel
theorem d_L_law_450 : decode b_L_law 450 = .ok (.aload_n 2, 1) := by decide +kernel
theorem d_L_law_451 : decode b_L_law 451 = .ok (.aload_n 0, 1) := by decide +kernel
theorem d_L_law_452 : decode b_L_law 452 = .ok (.iload 4, 2) := by decide +kernel
theorem d_L_law_454 : decode b_L_law 454 = .ok (.iconst 1, 1) := by decide +kernel
theorem d_L_law_455 : decode b_L_law 455 = .ok (.iadd, 1) := by decide +kernel
theorem d_L_law_456 : decode b_L_law 456 = .ok (.iaload, 1) := by decide +kernel
theorem d_L_law_457 : decode b_L_law 457 = .ok (.aload_n 0, 1) := by decide +kernel
theorem d_L_law_458 : decode b_L_law 458 = .ok (.iload 4, 2) := by decide +kernel
theorem d_L_law_460 : decode b_L_law 460 = .ok (.iconst 2, 1) := by decide +kernel
theorem d_L_law_461 : decode b_L_law 461 = .ok (.iadd, 1) := by decide +kernel
theorem d_L_law_462 : decode b_L_law 462 = .ok (.iaload, 1) := by decide +kernel
theorem d_L_law_463 : decode b_L_law 463 = .ok (.invokevirtual 130, 3) := by decide +kernel
theorem d_L_law_466 : decode b_L_law 466 = .ok (.istore 6, 2) := by decide +kernel
theorem d_L_law_468 : decode b_L_law 468 = .ok (.aload_n 2, 1) := by decide +kernel
theorem d_L_law_469 : decode b_L_law 469 = .ok (.invokevirtual 113, 3) := by decide +kernel
theorem d_L_law_472 : decode b_L_law 472 = .ok (.iload 5, 2) := by decide +kernel
theorem d_L_law_474 : decode b_L_law 474 = .ok (.if_icmp .eq 5, 3) := by decide +kernel
theorem d_L_law_477 : decode b_L_law 477 = .ok (.iconst 0, 1) := by decide +kernel
theorem d_L_law_478 : decode b_L_law 478 = .ok (.ireturn, 1) := by decide +kernel
theorem d_L_law_479 : decode b_L_law 479 = .ok (.iload 5, 2) := by decide +kernel
theorem d_L_law_481 : decode b_L_law 481 = .ok (.ifCond .ne 15, 3) := by decide +kernel
theorem d_L_law_484 : decode b_L_law 484 = .ok (.aload_n 3, 1) := by decide +kernel
theorem d_L_law_485 : decode b_L_law 485 = .ok (.iconst 0, 1) := by decide +kernel
theorem d_L_law_486 : decode b_L_law 486 = .ok (.laload, 1) := by decide +kernel
theorem d_L_law_487 : decode b_L_law 487 = .ok (.iload 6, 2) := by decide +kernel
theorem d_L_law_489 : decode b_L_law 489 = .ok (.i2l, 1) := by decide +kernel
theorem d_L_law_490 : decode b_L_law 490 = .ok (.lcmp, 1) := by decide +kernel
theorem d_L_law_491 : decode b_L_law 491 = .ok (.ifCond .eq 5, 3) := by decide +kernel
theorem d_L_law_494 : decode b_L_law 494 = .ok (.iconst 0, 1) := by decide +kernel
theorem d_L_law_495 : decode b_L_law 495 = .ok (.ireturn, 1) := by decide +kernel
theorem d_L_law_496 : decode b_L_law 496 = .ok (.goto 1445, 3) := by decide +kernel
theorem d_L_law_499 : decode b_L_law 499 = .ok (.aload_n 1, 1) := by decide +kernel
theorem d_L_law_500 : decode b_L_law 500 = .ok (.aload_n 0, 1) := by decide +kernel
theorem d_L_law_501 : decode b_L_law 501 = .ok (.iload 4, 2) := by decide +kernel
theorem d_L_law_503 : decode b_L_law 503 = .ok (.iconst 1, 1) := by decide +kernel
theorem d_L_law_504 : decode b_L_law 504 = .ok (.iadd, 1) := by decide +kernel
theorem d_L_law_505 : decode b_L_law 505 = .ok (.iaload, 1) := by decide +kernel
theorem d_L_law_506 : decode b_L_law 506 = .ok (.aload_n 0, 1) := by decide +kernel
theorem d_L_law_507 : decode b_L_law 507 = .ok (.iload 4, 2) := by decide +kernel
theorem d_L_law_509 : decode b_L_law 509 = .ok (.iconst 2, 1) := by decide +kernel
theorem d_L_law_510 : decode b_L_law 510 = .ok (.iadd, 1) := by decide +kernel
theorem d_L_law_511 : decode b_L_law 511 = .ok (.iaload, 1) := by decide +kernel
theorem d_L_law_512 : decode b_L_law 512 = .ok (.aload_n 3, 1) := by decide +kernel
theorem d_L_law_513 : decode b_L_law 513 = .ok (.invokestatic 131, 3) := by decide +kernel
theorem d_L_law_516 : decode b_L_law 516 = .ok (.istore 5, 2) := by decide +kernel
theorem d_L_law_518 : decode b_L_law 518 = .ok (.aload_n 2, 1) := by decide +kernel
theorem d_L_law_519 : decode b_L_law 519 = .ok (.aload_n 0, 1) := by decide +kernel
theorem d_L_law_520 : decode b_L_law 520 = .ok (.iload 4, 2) := by decide +kernel
theorem d_L_law_522 : decode b_L_law 522 = .ok (.iconst 1, 1) := by decide +kernel
theorem d_L_law_523 : decode b_L_law 523 = .ok (.iadd, 1) := by decide +kernel
theorem d_L_law_524 : decode b_L_law 524 = .ok (.iaload, 1) := by decide +kernel
theorem d_L_law_525 : decode b_L_law 525 = .ok (.aload_n 0, 1) := by decide +kernel
theorem d_L_law_526 : decode b_L_law 526 = .ok (.iload 4, 2) := by decide +kernel
theorem d_L_law_528 : decode b_L_law 528 = .ok (.iconst 2, 1) := by decide +kernel
theorem d_L_law_529 : decode b_L_law 529 = .ok (.iadd, 1) := by decide +kernel
theorem d_L_law_530 : decode b_L_law 530 = .ok (.iaload, 1) := by decide +kernel
theorem d_L_law_531 : decode b_L_law 531 = .ok (.invokevirtual 133, 3) := by decide +kernel
theorem d_L_law_534 : decode b_L_law 534 = .ok (.istore 6, 2) := by decide +kernel
theorem d_L_law_536 : decode b_L_law 536 = .ok (.aload_n 2, 1) := by decide +kernel
theorem d_L_law_537 : decode b_L_law 537 = .ok (.invokevirtual 113, 3) := by decide +kernel
theorem d_L_law_540 : decode b_L_law 540 = .ok (.iload 5, 2) := by decide +kernel
theorem d_L_law_542 : decode b_L_law 542 = .ok (.if_icmp .eq 5, 3) := by decide +kernel
theorem d_L_law_545 : decode b_L_law 545 = .ok (.iconst 0, 1) := by decide +kernel
theorem d_L_law_546 : decode b_L_law 546 = .ok (.ireturn, 1) := by decide +kernel
theorem d_L_law_547 : decode b_L_law 547 = .ok (.iload 5, 2) := by decide +kernel
theorem d_L_law_549 : decode b_L_law 549 = .ok (.ifCond .ne 15, 3) := by decide +kernel
theorem d_L_law_552 : decode b_L_law 552 = .ok (.aload_n 3, 1) := by decide +kernel
theorem d_L_law_553 : decode b_L_law 553 = .ok (.iconst 0, 1) := by decide +kernel
theorem d_L_law_554 : decode b_L_law 554 = .ok (.laload, 1) := by decide +kernel
theorem d_L_law_555 : decode b_L_law 555 = .ok (.iload 6, 2) := by decide +kernel
theorem d_L_law_557 : decode b_L_law 557 = .ok (.i2l, 1) := by decide +kernel
theorem d_L_law_558 : decode b_L_law 558 = .ok (.lcmp, 1) := by decide +kernel
theorem d_L_law_559 : decode b_L_law 559 = .ok (.ifCond .eq 5, 3) := by decide +kernel
theorem d_L_law_562 : decode b_L_law 562 = .ok (.iconst 0, 1) := by decide +kernel
theorem d_L_law_563 : decode b_L_law 563 = .ok (.ireturn, 1) := by decide +kernel
theorem d_L_law_564 : decode b_L_law 564 = .ok (.goto 1377, 3) := by decide +kernel
theorem d_L_law_567 : decode b_L_law 567 = .ok (.aload_n 1, 1) := by decide +kernel
theorem d_L_law_568 : decode b_L_law 568 = .ok (.aload_n 0, 1) := by decide +kernel
theorem d_L_law_569 : decode b_L_law 569 = .ok (.iload 4, 2) := by decide +kernel
theorem d_L_law_571 : decode b_L_law 571 = .ok (.iconst 1, 1) := by decide +kernel
theorem d_L_law_572 : decode b_L_law 572 = .ok (.iadd, 1) := by decide +kernel
theorem d_L_law_573 : decode b_L_law 573 = .ok (.iaload, 1) := by decide +kernel
theorem d_L_law_574 : decode b_L_law 574 = .ok (.aload_n 3, 1) := by decide +kernel
theorem d_L_law_575 : decode b_L_law 575 = .ok (.invokestatic 134, 3) := by decide +kernel
theorem d_L_law_578 : decode b_L_law 578 = .ok (.istore 5, 2) := by decide +kernel
theorem d_L_law_580 : decode b_L_law 580 = .ok (.aload_n 2, 1) := by decide +kernel
theorem d_L_law_581 : decode b_L_law 581 = .ok (.aload_n 0, 1) := by decide +kernel
theorem d_L_law_582 : decode b_L_law 582 = .ok (.iload 4, 2) := by decide +kernel
theorem d_L_law_584 : decode b_L_law 584 = .ok (.iconst 1, 1) := by decide +kernel
theorem d_L_law_585 : decode b_L_law 585 = .ok (.iadd, 1) := by decide +kernel
theorem d_L_law_586 : decode b_L_law 586 = .ok (.iaload, 1) := by decide +kernel
theorem d_L_law_587 : decode b_L_law 587 = .ok (.invokevirtual 137, 3) := by decide +kernel
theorem d_L_law_590 : decode b_L_law 590 = .ok (.istore 6, 2) := by decide +kernel
theorem d_L_law_592 : decode b_L_law 592 = .ok (.aload_n 2, 1) := by decide +kernel
theorem d_L_law_593 : decode b_L_law 593 = .ok (.invokevirtual 113, 3) := by decide +kernel
theorem d_L_law_596 : decode b_L_law 596 = .ok (.iload 5, 2) := by decide +kernel
theorem d_L_law_598 : decode b_L_law 598 = .ok (.if_icmp .eq 5, 3) := by decide +kernel
theorem d_L_law_601 : decode b_L_law 601 = .ok (.iconst 0, 1) := by decide +kernel
theorem d_L_law_602 : decode b_L_law 602 = .ok (.ireturn, 1) := by decide +kernel
theorem d_L_law_603 : decode b_L_law 603 = .ok (.iload 5, 2) := by decide +kernel
theorem d_L_law_605 : decode b_L_law 605 = .ok (.ifCond .ne 15, 3) := by decide +kernel
theorem d_L_law_608 : decode b_L_law 608 = .ok (.aload_n 3, 1) := by decide +kernel
theorem d_L_law_609 : decode b_L_law 609 = .ok (.iconst 0, 1) := by decide +kernel
theorem d_L_law_610 : decode b_L_law 610 = .ok (.laload, 1) := by decide +kernel
theorem d_L_law_611 : decode b_L_law 611 = .ok (.iload 6, 2) := by decide +kernel
theorem d_L_law_613 : decode b_L_law 613 = .ok (.i2l, 1) := by decide +kernel
theorem d_L_law_614 : decode b_L_law 614 = .ok (.lcmp, 1) := by decide +kernel
theorem d_L_law_615 : decode b_L_law 615 = .ok (.ifCond .eq 5, 3) := by decide +kernel
theorem d_L_law_618 : decode b_L_law 618 = .ok (.iconst 0, 1) := by decide +kernel
theorem d_L_law_619 : decode b_L_law 619 = .ok (.ireturn, 1) := by decide +kernel
theorem d_L_law_620 : decode b_L_law 620 = .ok (.goto 1321, 3) := by decide +kernel
theorem d_L_law_623 : decode b_L_law 623 = .ok (.aload_n 1, 1) := by decide +kernel
theorem d_L_law_624 : decode b_L_law 624 = .ok (.aload_n 0, 1) := by decide +kernel
theorem d_L_law_625 : decode b_L_law 625 = .ok (.iload 4, 2) := by decide +kernel
theorem d_L_law_627 : decode b_L_law 627 = .ok (.iconst 1, 1) := by decide +kernel
theorem d_L_law_628 : decode b_L_law 628 = .ok (.iadd, 1) := by decide +kernel
theorem d_L_law_629 : decode b_L_law 629 = .ok (.iaload, 1) := by decide +kernel
theorem d_L_law_630 : decode b_L_law 630 = .ok (.aload_n 0, 1) := by decide +kernel
theorem d_L_law_631 : decode b_L_law 631 = .ok (.iload 4, 2) := by decide +kernel
theorem d_L_law_633 : decode b_L_law 633 = .ok (.iconst 2, 1) := by decide +kernel
theorem d_L_law_634 : decode b_L_law 634 = .ok (.iadd, 1) := by decide +kernel
theorem d_L_law_635 : decode b_L_law 635 = .ok (.iaload, 1) := by decide +kernel
theorem d_L_law_636 : decode b_L_law 636 = .ok (.aload_n 0, 1) := by decide +kernel
theorem d_L_law_637 : decode b_L_law 637 = .ok (.iload 4, 2) := by decide +kernel
theorem d_L_law_639 : decode b_L_law 639 = .ok (.iconst 3, 1) := by decide +kernel
theorem d_L_law_640 : decode b_L_law 640 = .ok (.iadd, 1) := by decide +kernel
theorem d_L_law_641 : decode b_L_law 641 = .ok (.iaload, 1) := by decide +kernel
theorem d_L_law_642 : decode b_L_law 642 = .ok (.aload_n 3, 1) := by decide +kernel
theorem d_L_law_643 : decode b_L_law 643 = .ok (.invokestatic 138, 3) := by decide +kernel
theorem d_L_law_646 : decode b_L_law 646 = .ok (.istore 5, 2) := by decide +kernel
theorem d_L_law_648 : decode b_L_law 648 = .ok (.aload_n 2, 1) := by decide +kernel
theorem d_L_law_649 : decode b_L_law 649 = .ok (.aload_n 0, 1) := by decide +kernel
theorem d_L_law_650 : decode b_L_law 650 = .ok (.iload 4, 2) := by decide +kernel
theorem d_L_law_652 : decode b_L_law 652 = .ok (.iconst 1, 1) := by decide +kernel
theorem d_L_law_653 : decode b_L_law 653 = .ok (.iadd, 1) := by decide +kernel
theorem d_L_law_654 : decode b_L_law 654 = .ok (.iaload, 1) := by decide +kernel
theorem d_L_law_655 : decode b_L_law 655 = .ok (.aload_n 0, 1) := by decide +kernel
theorem d_L_law_656 : decode b_L_law 656 = .ok (.iload 4, 2) := by decide +kernel
theorem d_L_law_658 : decode b_L_law 658 = .ok (.iconst 2, 1) := by decide +kernel
theorem d_L_law_659 : decode b_L_law 659 = .ok (.iadd, 1) := by decide +kernel
theorem d_L_law_660 : decode b_L_law 660 = .ok (.iaload, 1) := by decide +kernel
theorem d_L_law_661 : decode b_L_law 661 = .ok (.aload_n 0, 1) := by decide +kernel
theorem d_L_law_662 : decode b_L_law 662 = .ok (.iload 4, 2) := by decide +kernel
theorem d_L_law_664 : decode b_L_law 664 = .ok (.iconst 3, 1) := by decide +kernel
theorem d_L_law_665 : decode b_L_law 665 = .ok (.iadd, 1) := by decide +kernel
theorem d_L_law_666 : decode b_L_law 666 = .ok (.iaload, 1) := by decide +kernel
theorem d_L_law_667 : decode b_L_law 667 = .ok (.invokevirtual 141, 3) := by decide +kernel
theorem d_L_law_670 : decode b_L_law 670 = .ok (.istore 6, 2) := by decide +kernel
theorem d_L_law_672 : decode b_L_law 672 = .ok (.aload_n 2, 1) := by decide +kernel
theorem d_L_law_673 : decode b_L_law 673 = .ok (.invokevirtual 113, 3) := by decide +kernel
theorem d_L_law_676 : decode b_L_law 676 = .ok (.iload 5, 2) := by decide +kernel
theorem d_L_law_678 : decode b_L_law 678 = .ok (.if_icmp .eq 5, 3) := by decide +kernel
theorem d_L_law_681 : decode b_L_law 681 = .ok (.iconst 0, 1) := by decide +kernel
theorem d_L_law_682 : decode b_L_law 682 = .ok (.ireturn, 1) := by decide +kernel
theorem d_L_law_683 : decode b_L_law 683 = .ok (.iload 5, 2) := by decide +kernel
theorem d_L_law_685 : decode b_L_law 685 = .ok (.ifCond .ne 15, 3) := by decide +kernel
theorem d_L_law_688 : decode b_L_law 688 = .ok (.aload_n 3, 1) := by decide +kernel
theorem d_L_law_689 : decode b_L_law 689 = .ok (.iconst 0, 1) := by decide +kernel
theorem d_L_law_690 : decode b_L_law 690 = .ok (.laload, 1) := by decide +kernel
theorem d_L_law_691 : decode b_L_law 691 = .ok (.iload 6, 2) := by decide +kernel
theorem d_L_law_693 : decode b_L_law 693 = .ok (.i2l, 1) := by decide +kernel
theorem d_L_law_694 : decode b_L_law 694 = .ok (.lcmp, 1) := by decide +kernel
theorem d_L_law_695 : decode b_L_law 695 = .ok (.ifCond .eq 5, 3) := by decide +kernel
theorem d_L_law_698 : decode b_L_law 698 = .ok (.iconst 0, 1) := by decide +kernel
theorem d_L_law_699 : decode b_L_law 699 = .ok (.ireturn, 1) := by decide +kernel
theorem d_L_law_700 : decode b_L_law 700 = .ok (.goto 1241, 3) := by decide +kernel
theorem d_L_law_703 : decode b_L_law 703 = .ok (.aload_n 1, 1) := by decide +kernel
theorem d_L_law_704 : decode b_L_law 704 = .ok (.aload_n 0, 1) := by decide +kernel
theorem d_L_law_705 : decode b_L_law 705 = .ok (.iload 4, 2) := by decide +kernel
theorem d_L_law_707 : decode b_L_law 707 = .ok (.iconst 1, 1) := by decide +kernel
theorem d_L_law_708 : decode b_L_law 708 = .ok (.iadd, 1) := by decide +kernel
theorem d_L_law_709 : decode b_L_law 709 = .ok (.iaload, 1) := by decide +kernel
theorem d_L_law_710 : decode b_L_law 710 = .ok (.aload_n 0, 1) := by decide +kernel
theorem d_L_law_711 : decode b_L_law 711 = .ok (.iload 4, 2) := by decide +kernel
theorem d_L_law_713 : decode b_L_law 713 = .ok (.iconst 2, 1) := by decide +kernel
theorem d_L_law_714 : decode b_L_law 714 = .ok (.iadd, 1) := by decide +kernel
theorem d_L_law_715 : decode b_L_law 715 = .ok (.iaload, 1) := by decide +kernel
theorem d_L_law_716 : decode b_L_law 716 = .ok (.aload_n 3, 1) := by decide +kernel
theorem d_L_law_717 : decode b_L_law 717 = .ok (.invokestatic 142, 3) := by decide +kernel
theorem d_L_law_720 : decode b_L_law 720 = .ok (.istore 5, 2) := by decide +kernel
theorem d_L_law_722 : decode b_L_law 722 = .ok (.aload_n 2, 1) := by decide +kernel
theorem d_L_law_723 : decode b_L_law 723 = .ok (.aload_n 0, 1) := by decide +kernel
theorem d_L_law_724 : decode b_L_law 724 = .ok (.iload 4, 2) := by decide +kernel
theorem d_L_law_726 : decode b_L_law 726 = .ok (.iconst 1, 1) := by decide +kernel
theorem d_L_law_727 : decode b_L_law 727 = .ok (.iadd, 1) := by decide +kernel
theorem d_L_law_728 : decode b_L_law 728 = .ok (.iaload, 1) := by decide +kernel
theorem d_L_law_729 : decode b_L_law 729 = .ok (.aload_n 0, 1) := by decide +kernel
theorem d_L_law_730 : decode b_L_law 730 = .ok (.iload 4, 2) := by decide +kernel
theorem d_L_law_732 : decode b_L_law 732 = .ok (.iconst 2, 1) := by decide +kernel
theorem d_L_law_733 : decode b_L_law 733 = .ok (.iadd, 1) := by decide +kernel
theorem d_L_law_734 : decode b_L_law 734 = .ok (.iaload, 1) := by decide +kernel
theorem d_L_law_735 : decode b_L_law 735 = .ok (.invokevirtual 144, 3) := by decide +kernel
theorem d_L_law_738 : decode b_L_law 738 = .ok (.istore 6, 2) := by decide +kernel
theorem d_L_law_740 : decode b_L_law 740 = .ok (.aload_n 2, 1) := by decide +kernel
theorem d_L_law_741 : decode b_L_law 741 = .ok (.invokevirtual 113, 3) := by decide +kernel
theorem d_L_law_744 : decode b_L_law 744 = .ok (.iload 5, 2) := by decide +kernel
theorem d_L_law_746 : decode b_L_law 746 = .ok (.if_icmp .eq 5, 3) := by decide +kernel
theorem d_L_law_749 : decode b_L_law 749 = .ok (.iconst 0, 1) := by decide +kernel
theorem d_L_law_750 : decode b_L_law 750 = .ok (.ireturn, 1) := by decide +kernel
theorem d_L_law_751 : decode b_L_law 751 = .ok (.iload 5, 2) := by decide +kernel
theorem d_L_law_753 : decode b_L_law 753 = .ok (.ifCond .ne 15, 3) := by decide +kernel
theorem d_L_law_756 : decode b_L_law 756 = .ok (.aload_n 3, 1) := by decide +kernel
theorem d_L_law_757 : decode b_L_law 757 = .ok (.iconst 0, 1) := by decide +kernel
theorem d_L_law_758 : decode b_L_law 758 = .ok (.laload, 1) := by decide +kernel
theorem d_L_law_759 : decode b_L_law 759 = .ok (.iload 6, 2) := by decide +kernel
theorem d_L_law_761 : decode b_L_law 761 = .ok (.i2l, 1) := by decide +kernel
theorem d_L_law_762 : decode b_L_law 762 = .ok (.lcmp, 1) := by decide +kernel
theorem d_L_law_763 : decode b_L_law 763 = .ok (.ifCond .eq 5, 3) := by decide +kernel
theorem d_L_law_766 : decode b_L_law 766 = .ok (.iconst 0, 1) := by decide +kernel
theorem d_L_law_767 : decode b_L_law 767 = .ok (.ireturn, 1) := by decide +kernel
theorem d_L_law_768 : decode b_L_law 768 = .ok (.goto 1173, 3) := by decide +kernel
theorem d_L_law_771 : decode b_L_law 771 = .ok (.aload_n 1, 1) := by decide +kernel
theorem d_L_law_772 : decode b_L_law 772 = .ok (.aload_n 0, 1) := by decide +kernel
theorem d_L_law_773 : decode b_L_law 773 = .ok (.iload 4, 2) := by decide +kernel
theorem d_L_law_775 : decode b_L_law 775 = .ok (.iconst 1, 1) := by decide +kernel
theorem d_L_law_776 : decode b_L_law 776 = .ok (.iadd, 1) := by decide +kernel
theorem d_L_law_777 : decode b_L_law 777 = .ok (.iaload, 1) := by decide +kernel
theorem d_L_law_778 : decode b_L_law 778 = .ok (.aload_n 0, 1) := by decide +kernel
theorem d_L_law_779 : decode b_L_law 779 = .ok (.iload 4, 2) := by decide +kernel
theorem d_L_law_781 : decode b_L_law 781 = .ok (.iconst 2, 1) := by decide +kernel
theorem d_L_law_782 : decode b_L_law 782 = .ok (.iadd, 1) := by decide +kernel
theorem d_L_law_783 : decode b_L_law 783 = .ok (.iaload, 1) := by decide +kernel
theorem d_L_law_784 : decode b_L_law 784 = .ok (.aload_n 0, 1) := by decide +kernel
theorem d_L_law_785 : decode b_L_law 785 = .ok (.iload 4, 2) := by decide +kernel
theorem d_L_law_787 : decode b_L_law 787 = .ok (.iconst 3, 1) := by decide +kernel
theorem d_L_law_788 : decode b_L_law 788 = .ok (.iadd, 1) := by decide +kernel
theorem d_L_law_789 : decode b_L_law 789 = .ok (.iaload, 1) := by decide +kernel
theorem d_L_law_790 : decode b_L_law 790 = .ok (.aload_n 0, 1) := by decide +kernel
theorem d_L_law_791 : decode b_L_law 791 = .ok (.iload 4, 2) := by decide +kernel
theorem d_L_law_793 : decode b_L_law 793 = .ok (.iconst 4, 1) := by decide +kernel
theorem d_L_law_794 : decode b_L_law 794 = .ok (.iadd, 1) := by decide +kernel
theorem d_L_law_795 : decode b_L_law 795 = .ok (.iaload, 1) := by decide +kernel
theorem d_L_law_796 : decode b_L_law 796 = .ok (.aload_n 3, 1) := by decide +kernel
theorem d_L_law_797 : decode b_L_law 797 = .ok (.invokestatic 145, 3) := by decide +kernel
theorem d_L_law_800 : decode b_L_law 800 = .ok (.istore 5, 2) := by decide +kernel
theorem d_L_law_802 : decode b_L_law 802 = .ok (.aload_n 2, 1) := by decide +kernel
theorem d_L_law_803 : decode b_L_law 803 = .ok (.aload_n 0, 1) := by decide +kernel
theorem d_L_law_804 : decode b_L_law 804 = .ok (.iload 4, 2) := by decide +kernel
theorem d_L_law_806 : decode b_L_law 806 = .ok (.iconst 1, 1) := by decide +kernel
theorem d_L_law_807 : decode b_L_law 807 = .ok (.iadd, 1) := by decide +kernel
theorem d_L_law_808 : decode b_L_law 808 = .ok (.iaload, 1) := by decide +kernel
theorem d_L_law_809 : decode b_L_law 809 = .ok (.aload_n 0, 1) := by decide +kernel
theorem d_L_law_810 : decode b_L_law 810 = .ok (.iload 4, 2) := by decide +kernel
theorem d_L_law_812 : decode b_L_law 812 = .ok (.iconst 2, 1) := by decide +kernel
theorem d_L_law_813 : decode b_L_law 813 = .ok (.iadd, 1) := by decide +kernel
theorem d_L_law_814 : decode b_L_law 814 = .ok (.iaload, 1) := by decide +kernel
theorem d_L_law_815 : decode b_L_law 815 = .ok (.aload_n 0, 1) := by decide +kernel
theorem d_L_law_816 : decode b_L_law 816 = .ok (.iload 4, 2) := by decide +kernel
theorem d_L_law_818 : decode b_L_law 818 = .ok (.iconst 3, 1) := by decide +kernel
theorem d_L_law_819 : decode b_L_law 819 = .ok (.iadd, 1) := by decide +kernel
theorem d_L_law_820 : decode b_L_law 820 = .ok (.iaload, 1) := by decide +kernel
theorem d_L_law_821 : decode b_L_law 821 = .ok (.aload_n 0, 1) := by decide +kernel
theorem d_L_law_822 : decode b_L_law 822 = .ok (.iload 4, 2) := by decide +kernel
theorem d_L_law_824 : decode b_L_law 824 = .ok (.iconst 4, 1) := by decide +kernel
theorem d_L_law_825 : decode b_L_law 825 = .ok (.iadd, 1) := by decide +kernel
theorem d_L_law_826 : decode b_L_law 826 = .ok (.iaload, 1) := by decide +kernel
theorem d_L_law_827 : decode b_L_law 827 = .ok (.invokevirtual 148, 3) := by decide +kernel
theorem d_L_law_830 : decode b_L_law 830 = .ok (.istore 6, 2) := by decide +kernel
theorem d_L_law_832 : decode b_L_law 832 = .ok (.aload_n 2, 1) := by decide +kernel
theorem d_L_law_833 : decode b_L_law 833 = .ok (.invokevirtual 113, 3) := by decide +kernel
theorem d_L_law_836 : decode b_L_law 836 = .ok (.iload 5, 2) := by decide +kernel
theorem d_L_law_838 : decode b_L_law 838 = .ok (.if_icmp .eq 5, 3) := by decide +kernel
theorem d_L_law_841 : decode b_L_law 841 = .ok (.iconst 0, 1) := by decide +kernel
theorem d_L_law_842 : decode b_L_law 842 = .ok (.ireturn, 1) := by decide +kernel
theorem d_L_law_843 : decode b_L_law 843 = .ok (.iload 5, 2) := by decide +kernel
theorem d_L_law_845 : decode b_L_law 845 = .ok (.ifCond .ne 15, 3) := by decide +kernel
theorem d_L_law_848 : decode b_L_law 848 = .ok (.aload_n 3, 1) := by decide +kernel
theorem d_L_law_849 : decode b_L_law 849 = .ok (.iconst 0, 1) := by decide +kernel
theorem d_L_law_850 : decode b_L_law 850 = .ok (.laload, 1) := by decide +kernel
theorem d_L_law_851 : decode b_L_law 851 = .ok (.iload 6, 2) := by decide +kernel
theorem d_L_law_853 : decode b_L_law 853 = .ok (.i2l, 1) := by decide +kernel
theorem d_L_law_854 : decode b_L_law 854 = .ok (.lcmp, 1) := by decide +kernel
theorem d_L_law_855 : decode b_L_law 855 = .ok (.ifCond .eq 5, 3) := by decide +kernel
theorem d_L_law_858 : decode b_L_law 858 = .ok (.iconst 0, 1) := by decide +kernel
theorem d_L_law_859 : decode b_L_law 859 = .ok (.ireturn, 1) := by decide +kernel
theorem d_L_law_860 : decode b_L_law 860 = .ok (.goto 1081, 3) := by decide +kernel
theorem d_L_law_863 : decode b_L_law 863 = .ok (.aload_n 1, 1) := by decide +kernel
theorem d_L_law_864 : decode b_L_law 864 = .ok (.aload_n 0, 1) := by decide +kernel
theorem d_L_law_865 : decode b_L_law 865 = .ok (.iload 4, 2) := by decide +kernel
theorem d_L_law_867 : decode b_L_law 867 = .ok (.iconst 1, 1) := by decide +kernel
theorem d_L_law_868 : decode b_L_law 868 = .ok (.iadd, 1) := by decide +kernel
theorem d_L_law_869 : decode b_L_law 869 = .ok (.iaload, 1) := by decide +kernel
theorem d_L_law_870 : decode b_L_law 870 = .ok (.aload_n 0, 1) := by decide +kernel
theorem d_L_law_871 : decode b_L_law 871 = .ok (.iload 4, 2) := by decide +kernel
theorem d_L_law_873 : decode b_L_law 873 = .ok (.iconst 2, 1) := by decide +kernel
theorem d_L_law_874 : decode b_L_law 874 = .ok (.iadd, 1) := by decide +kernel
theorem d_L_law_875 : decode b_L_law 875 = .ok (.iaload, 1) := by decide +kernel
theorem d_L_law_876 : decode b_L_law 876 = .ok (.aload_n 0, 1) := by decide +kernel
theorem d_L_law_877 : decode b_L_law 877 = .ok (.iload 4, 2) := by decide +kernel
theorem d_L_law_879 : decode b_L_law 879 = .ok (.iconst 3, 1) := by decide +kernel
theorem d_L_law_880 : decode b_L_law 880 = .ok (.iadd, 1) := by decide +kernel
theorem d_L_law_881 : decode b_L_law 881 = .ok (.iaload, 1) := by decide +kernel
theorem d_L_law_882 : decode b_L_law 882 = .ok (.aload_n 0, 1) := by decide +kernel
theorem d_L_law_883 : decode b_L_law 883 = .ok (.iload 4, 2) := by decide +kernel
theorem d_L_law_885 : decode b_L_law 885 = .ok (.iconst 4, 1) := by decide +kernel
theorem d_L_law_886 : decode b_L_law 886 = .ok (.iadd, 1) := by decide +kernel
theorem d_L_law_887 : decode b_L_law 887 = .ok (.iaload, 1) := by decide +kernel
theorem d_L_law_888 : decode b_L_law 888 = .ok (.aload_n 0, 1) := by decide +kernel
theorem d_L_law_889 : decode b_L_law 889 = .ok (.iload 4, 2) := by decide +kernel
theorem d_L_law_891 : decode b_L_law 891 = .ok (.iconst 5, 1) := by decide +kernel
theorem d_L_law_892 : decode b_L_law 892 = .ok (.iadd, 1) := by decide +kernel
theorem d_L_law_893 : decode b_L_law 893 = .ok (.iaload, 1) := by decide +kernel
theorem d_L_law_894 : decode b_L_law 894 = .ok (.aload_n 3, 1) := by decide +kernel
theorem d_L_law_895 : decode b_L_law 895 = .ok (.invokestatic 149, 3) := by decide +kernel
theorem d_L_law_898 : decode b_L_law 898 = .ok (.istore 5, 2) := by decide +kernel
theorem d_L_law_900 : decode b_L_law 900 = .ok (.aload_n 2, 1) := by decide +kernel
theorem d_L_law_901 : decode b_L_law 901 = .ok (.aload_n 0, 1) := by decide +kernel
theorem d_L_law_902 : decode b_L_law 902 = .ok (.iload 4, 2) := by decide +kernel
theorem d_L_law_904 : decode b_L_law 904 = .ok (.iconst 1, 1) := by decide +kernel
theorem d_L_law_905 : decode b_L_law 905 = .ok (.iadd, 1) := by decide +kernel
theorem d_L_law_906 : decode b_L_law 906 = .ok (.iaload, 1) := by decide +kernel
theorem d_L_law_907 : decode b_L_law 907 = .ok (.aload_n 0, 1) := by decide +kernel
theorem d_L_law_908 : decode b_L_law 908 = .ok (.iload 4, 2) := by decide +kernel
theorem d_L_law_910 : decode b_L_law 910 = .ok (.iconst 2, 1) := by decide +kernel
theorem d_L_law_911 : decode b_L_law 911 = .ok (.iadd, 1) := by decide +kernel
theorem d_L_law_912 : decode b_L_law 912 = .ok (.iaload, 1) := by decide +kernel
theorem d_L_law_913 : decode b_L_law 913 = .ok (.aload_n 0, 1) := by decide +kernel
theorem d_L_law_914 : decode b_L_law 914 = .ok (.iload 4, 2) := by decide +kernel
theorem d_L_law_916 : decode b_L_law 916 = .ok (.iconst 3, 1) := by decide +kernel
theorem d_L_law_917 : decode b_L_law 917 = .ok (.iadd, 1) := by decide +kernel
theorem d_L_law_918 : decode b_L_law 918 = .ok (.iaload, 1) := by decide +kernel
theorem d_L_law_919 : decode b_L_law 919 = .ok (.aload_n 0, 1) := by decide +kernel
theorem d_L_law_920 : decode b_L_law 920 = .ok (.iload 4, 2) := by decide +kernel
theorem d_L_law_922 : decode b_L_law 922 = .ok (.iconst 4, 1) := by decide +kernel
theorem d_L_law_923 : decode b_L_law 923 = .ok (.iadd, 1) := by decide +kernel
theorem d_L_law_924 : decode b_L_law 924 = .ok (.iaload, 1) := by decide +kernel
theorem d_L_law_925 : decode b_L_law 925 = .ok (.aload_n 0, 1) := by decide +kernel
theorem d_L_law_926 : decode b_L_law 926 = .ok (.iload 4, 2) := by decide +kernel
theorem d_L_law_928 : decode b_L_law 928 = .ok (.iconst 5, 1) := by decide +kernel
theorem d_L_law_929 : decode b_L_law 929 = .ok (.iadd, 1) := by decide +kernel
theorem d_L_law_930 : decode b_L_law 930 = .ok (.iaload, 1) := by decide +kernel
theorem d_L_law_931 : decode b_L_law 931 = .ok (.invokevirtual 152, 3) := by decide +kernel
theorem d_L_law_934 : decode b_L_law 934 = .ok (.istore 6, 2) := by decide +kernel
theorem d_L_law_936 : decode b_L_law 936 = .ok (.aload_n 2, 1) := by decide +kernel
theorem d_L_law_937 : decode b_L_law 937 = .ok (.invokevirtual 113, 3) := by decide +kernel
theorem d_L_law_940 : decode b_L_law 940 = .ok (.iload 5, 2) := by decide +kernel
theorem d_L_law_942 : decode b_L_law 942 = .ok (.if_icmp .eq 5, 3) := by decide +kernel
theorem d_L_law_945 : decode b_L_law 945 = .ok (.iconst 0, 1) := by decide +kernel
theorem d_L_law_946 : decode b_L_law 946 = .ok (.ireturn, 1) := by decide +kernel
theorem d_L_law_947 : decode b_L_law 947 = .ok (.iload 5, 2) := by decide +kernel
theorem d_L_law_949 : decode b_L_law 949 = .ok (.ifCond .ne 15, 3) := by decide +kernel
theorem d_L_law_952 : decode b_L_law 952 = .ok (.aload_n 3, 1) := by decide +kernel
theorem d_L_law_953 : decode b_L_law 953 = .ok (.iconst 0, 1) := by decide +kernel
theorem d_L_law_954 : decode b_L_law 954 = .ok (.laload, 1) := by decide +kernel
theorem d_L_law_955 : decode b_L_law 955 = .ok (.iload 6, 2) := by decide +kernel
theorem d_L_law_957 : decode b_L_law 957 = .ok (.i2l, 1) := by decide +kernel
theorem d_L_law_958 : decode b_L_law 958 = .ok (.lcmp, 1) := by decide +kernel
theorem d_L_law_959 : decode b_L_law 959 = .ok (.ifCond .eq 5, 3) := by decide +kernel
theorem d_L_law_962 : decode b_L_law 962 = .ok (.iconst 0, 1) := by decide +kernel
theorem d_L_law_963 : decode b_L_law 963 = .ok (.ireturn, 1) := by decide +kernel
theorem d_L_law_964 : decode b_L_law 964 = .ok (.goto 977, 3) := by decide +kernel
theorem d_L_law_967 : decode b_L_law 967 = .ok (.aload_n 1, 1) := by decide +kernel
theorem d_L_law_968 : decode b_L_law 968 = .ok (.aload_n 0, 1) := by decide +kernel
theorem d_L_law_969 : decode b_L_law 969 = .ok (.iload 4, 2) := by decide +kernel
theorem d_L_law_971 : decode b_L_law 971 = .ok (.iconst 1, 1) := by decide +kernel
theorem d_L_law_972 : decode b_L_law 972 = .ok (.iadd, 1) := by decide +kernel
theorem d_L_law_973 : decode b_L_law 973 = .ok (.iaload, 1) := by decide +kernel
theorem d_L_law_974 : decode b_L_law 974 = .ok (.aload_n 0, 1) := by decide +kernel
theorem d_L_law_975 : decode b_L_law 975 = .ok (.iload 4, 2) := by decide +kernel
theorem d_L_law_977 : decode b_L_law 977 = .ok (.iconst 2, 1) := by decide +kernel
theorem d_L_law_978 : decode b_L_law 978 = .ok (.iadd, 1) := by decide +kernel
theorem d_L_law_979 : decode b_L_law 979 = .ok (.iaload, 1) := by decide +kernel
theorem d_L_law_980 : decode b_L_law 980 = .ok (.aload_n 0, 1) := by decide +kernel
theorem d_L_law_981 : decode b_L_law 981 = .ok (.iload 4, 2) := by decide +kernel
theorem d_L_law_983 : decode b_L_law 983 = .ok (.iconst 3, 1) := by decide +kernel
theorem d_L_law_984 : decode b_L_law 984 = .ok (.iadd, 1) := by decide +kernel
theorem d_L_law_985 : decode b_L_law 985 = .ok (.iaload, 1) := by decide +kernel
theorem d_L_law_986 : decode b_L_law 986 = .ok (.aload_n 3, 1) := by decide +kernel
theorem d_L_law_987 : decode b_L_law 987 = .ok (.invokestatic 153, 3) := by decide +kernel
theorem d_L_law_990 : decode b_L_law 990 = .ok (.istore 5, 2) := by decide +kernel
theorem d_L_law_992 : decode b_L_law 992 = .ok (.aload_n 2, 1) := by decide +kernel
theorem d_L_law_993 : decode b_L_law 993 = .ok (.aload_n 0, 1) := by decide +kernel
theorem d_L_law_994 : decode b_L_law 994 = .ok (.iload 4, 2) := by decide +kernel
theorem d_L_law_996 : decode b_L_law 996 = .ok (.iconst 1, 1) := by decide +kernel
theorem d_L_law_997 : decode b_L_law 997 = .ok (.iadd, 1) := by decide +kernel
theorem d_L_law_998 : decode b_L_law 998 = .ok (.iaload, 1) := by decide +kernel
theorem d_L_law_999 : decode b_L_law 999 = .ok (.aload_n 0, 1) := by decide +kernel
theorem d_L_law_1000 : decode b_L_law 1000 = .ok (.iload 4, 2) := by decide +kernel
theorem d_L_law_1002 : decode b_L_law 1002 = .ok (.iconst 2, 1) := by decide +kernel
theorem d_L_law_1003 : decode b_L_law 1003 = .ok (.iadd, 1) := by decide +kernel
theorem d_L_law_1004 : decode b_L_law 1004 = .ok (.iaload, 1) := by decide +kernel
theorem d_L_law_1005 : decode b_L_law 1005 = .ok (.aload_n 0, 1) := by decide +kernel
theorem d_L_law_1006 : decode b_L_law 1006 = .ok (.iload 4, 2) := by decide +kernel
theorem d_L_law_1008 : decode b_L_law 1008 = .ok (.iconst 3, 1) := by decide +kernel
theorem d_L_law_1009 : decode b_L_law 1009 = .ok (.iadd, 1) := by decide +kernel
theorem d_L_law_1010 : decode b_L_law 1010 = .ok (.iaload, 1) := by decide +kernel
theorem d_L_law_1011 : decode b_L_law 1011 = .ok (.invokevirtual 155, 3) := by decide +kernel
theorem d_L_law_1014 : decode b_L_law 1014 = .ok (.istore 6, 2) := by decide +kernel
theorem d_L_law_1016 : decode b_L_law 1016 = .ok (.aload_n 2, 1) := by decide +kernel
theorem d_L_law_1017 : decode b_L_law 1017 = .ok (.invokevirtual 113, 3) := by decide +kernel
theorem d_L_law_1020 : decode b_L_law 1020 = .ok (.iload 5, 2) := by decide +kernel
theorem d_L_law_1022 : decode b_L_law 1022 = .ok (.if_icmp .eq 5, 3) := by decide +kernel
theorem d_L_law_1025 : decode b_L_law 1025 = .ok (.iconst 0, 1) := by decide +kernel
theorem d_L_law_1026 : decode b_L_law 1026 = .ok (.ireturn, 1) := by decide +kernel
theorem d_L_law_1027 : decode b_L_law 1027 = .ok (.iload 5, 2) := by decide +kernel
theorem d_L_law_1029 : decode b_L_law 1029 = .ok (.ifCond .ne 15, 3) := by decide +kernel
theorem d_L_law_1032 : decode b_L_law 1032 = .ok (.aload_n 3, 1) := by decide +kernel
theorem d_L_law_1033 : decode b_L_law 1033 = .ok (.iconst 0, 1) := by decide +kernel
theorem d_L_law_1034 : decode b_L_law 1034 = .ok (.laload, 1) := by decide +kernel
theorem d_L_law_1035 : decode b_L_law 1035 = .ok (.iload 6, 2) := by decide +kernel
theorem d_L_law_1037 : decode b_L_law 1037 = .ok (.i2l, 1) := by decide +kernel
theorem d_L_law_1038 : decode b_L_law 1038 = .ok (.lcmp, 1) := by decide +kernel
theorem d_L_law_1039 : decode b_L_law 1039 = .ok (.ifCond .eq 5, 3) := by decide +kernel
theorem d_L_law_1042 : decode b_L_law 1042 = .ok (.iconst 0, 1) := by decide +kernel
theorem d_L_law_1043 : decode b_L_law 1043 = .ok (.ireturn, 1) := by decide +kernel
theorem d_L_law_1044 : decode b_L_law 1044 = .ok (.goto 897, 3) := by decide +kernel
theorem d_L_law_1047 : decode b_L_law 1047 = .ok (.aload_n 1, 1) := by decide +kernel
theorem d_L_law_1048 : decode b_L_law 1048 = .ok (.aload_n 0, 1) := by decide +kernel
theorem d_L_law_1049 : decode b_L_law 1049 = .ok (.iload 4, 2) := by decide +kernel
theorem d_L_law_1051 : decode b_L_law 1051 = .ok (.iconst 1, 1) := by decide +kernel
theorem d_L_law_1052 : decode b_L_law 1052 = .ok (.iadd, 1) := by decide +kernel
theorem d_L_law_1053 : decode b_L_law 1053 = .ok (.iaload, 1) := by decide +kernel
theorem d_L_law_1054 : decode b_L_law 1054 = .ok (.aload_n 0, 1) := by decide +kernel
theorem d_L_law_1055 : decode b_L_law 1055 = .ok (.iload 4, 2) := by decide +kernel
theorem d_L_law_1057 : decode b_L_law 1057 = .ok (.iconst 2, 1) := by decide +kernel
theorem d_L_law_1058 : decode b_L_law 1058 = .ok (.iadd, 1) := by decide +kernel
theorem d_L_law_1059 : decode b_L_law 1059 = .ok (.iaload, 1) := by decide +kernel
theorem d_L_law_1060 : decode b_L_law 1060 = .ok (.ifCond .eq 7, 3) := by decide +kernel
theorem d_L_law_1063 : decode b_L_law 1063 = .ok (.iconst 1, 1) := by decide +kernel
theorem d_L_law_1064 : decode b_L_law 1064 = .ok (.goto 4, 3) := by decide +kernel
theorem d_L_law_1067 : decode b_L_law 1067 = .ok (.iconst 0, 1) := by decide +kernel
theorem d_L_law_1068 : decode b_L_law 1068 = .ok (.aload_n 3, 1) := by decide +kernel
theorem d_L_law_1069 : decode b_L_law 1069 = .ok (.invokestatic 156, 3) := by decide +kernel
theorem d_L_law_1072 : decode b_L_law 1072 = .ok (.istore 5, 2) := by decide +kernel
theorem d_L_law_1074 : decode b_L_law 1074 = .ok (.aload_n 2, 1) := by decide +kernel
theorem d_L_law_1075 : decode b_L_law 1075 = .ok (.aload_n 0, 1) := by decide +kernel
theorem d_L_law_1076 : decode b_L_law 1076 = .ok (.iload 4, 2) := by decide +kernel
theorem d_L_law_1078 : decode b_L_law 1078 = .ok (.iconst 1, 1) := by decide +kernel
theorem d_L_law_1079 : decode b_L_law 1079 = .ok (.iadd, 1) := by decide +kernel
theorem d_L_law_1080 : decode b_L_law 1080 = .ok (.iaload, 1) := by decide +kernel
theorem d_L_law_1081 : decode b_L_law 1081 = .ok (.aload_n 0, 1) := by decide +kernel
theorem d_L_law_1082 : decode b_L_law 1082 = .ok (.iload 4, 2) := by decide +kernel
theorem d_L_law_1084 : decode b_L_law 1084 = .ok (.iconst 2, 1) := by decide +kernel
theorem d_L_law_1085 : decode b_L_law 1085 = .ok (.iadd, 1) := by decide +kernel
theorem d_L_law_1086 : decode b_L_law 1086 = .ok (.iaload, 1) := by decide +kernel
theorem d_L_law_1087 : decode b_L_law 1087 = .ok (.ifCond .eq 7, 3) := by decide +kernel
theorem d_L_law_1090 : decode b_L_law 1090 = .ok (.iconst 1, 1) := by decide +kernel
theorem d_L_law_1091 : decode b_L_law 1091 = .ok (.goto 4, 3) := by decide +kernel
theorem d_L_law_1094 : decode b_L_law 1094 = .ok (.iconst 0, 1) := by decide +kernel
theorem d_L_law_1095 : decode b_L_law 1095 = .ok (.invokevirtual 159, 3) := by decide +kernel
theorem d_L_law_1098 : decode b_L_law 1098 = .ok (.lstore 6, 2) := by decide +kernel
theorem d_L_law_1100 : decode b_L_law 1100 = .ok (.aload_n 2, 1) := by decide +kernel
theorem d_L_law_1101 : decode b_L_law 1101 = .ok (.invokevirtual 113, 3) := by decide +kernel
theorem d_L_law_1104 : decode b_L_law 1104 = .ok (.iload 5, 2) := by decide +kernel
theorem d_L_law_1106 : decode b_L_law 1106 = .ok (.if_icmp .eq 5, 3) := by decide +kernel
theorem d_L_law_1109 : decode b_L_law 1109 = .ok (.iconst 0, 1) := by decide +kernel
theorem d_L_law_1110 : decode b_L_law 1110 = .ok (.ireturn, 1) := by decide +kernel
theorem d_L_law_1111 : decode b_L_law 1111 = .ok (.iload 5, 2) := by decide +kernel
theorem d_L_law_1113 : decode b_L_law 1113 = .ok (.ifCond .ne 14, 3) := by decide +kernel
theorem d_L_law_1116 : decode b_L_law 1116 = .ok (.aload_n 3, 1) := by decide +kernel
theorem d_L_law_1117 : decode b_L_law 1117 = .ok (.iconst 0, 1) := by decide +kernel
theorem d_L_law_1118 : decode b_L_law 1118 = .ok (.laload, 1) := by decide +kernel
theorem d_L_law_1119 : decode b_L_law 1119 = .ok (.lload 6, 2) := by decide +kernel
theorem d_L_law_1121 : decode b_L_law 1121 = .ok (.lcmp, 1) := by decide +kernel
theorem d_L_law_1122 : decode b_L_law 1122 = .ok (.ifCond .eq 5, 3) := by decide +kernel
theorem d_L_law_1125 : decode b_L_law 1125 = .ok (.iconst 0, 1) := by decide +kernel
theorem d_L_law_1126 : decode b_L_law 1126 = .ok (.ireturn, 1) := by decide +kernel
theorem d_L_law_1127 : decode b_L_law 1127 = .ok (.goto 814, 3) := by decide +kernel
theorem d_L_law_1130 : decode b_L_law 1130 = .ok (.aload_n 1, 1) := by decide +kernel
theorem d_L_law_1131 : decode b_L_law 1131 = .ok (.aload_n 0, 1) := by decide +kernel
theorem d_L_law_1132 : decode b_L_law 1132 = .ok (.iload 4, 2) := by decide +kernel
theorem d_L_law_1134 : decode b_L_law 1134 = .ok (.iconst 1, 1) := by decide +kernel
theorem d_L_law_1135 : decode b_L_law 1135 = .ok (.iadd, 1) := by decide +kernel
theorem d_L_law_1136 : decode b_L_law 1136 = .ok (.iaload, 1) := by decide +kernel
theorem d_L_law_1137 : decode b_L_law 1137 = .ok (.aload_n 0, 1) := by decide +kernel
theorem d_L_law_1138 : decode b_L_law 1138 = .ok (.iload 4, 2) := by decide +kernel
theorem d_L_law_1140 : decode b_L_law 1140 = .ok (.iconst 2, 1) := by decide +kernel
theorem d_L_law_1141 : decode b_L_law 1141 = .ok (.iadd, 1) := by decide +kernel
theorem d_L_law_1142 : decode b_L_law 1142 = .ok (.iaload, 1) := by decide +kernel
theorem d_L_law_1143 : decode b_L_law 1143 = .ok (.aload_n 0, 1) := by decide +kernel
theorem d_L_law_1144 : decode b_L_law 1144 = .ok (.iload 4, 2) := by decide +kernel
theorem d_L_law_1146 : decode b_L_law 1146 = .ok (.iconst 3, 1) := by decide +kernel
theorem d_L_law_1147 : decode b_L_law 1147 = .ok (.iadd, 1) := by decide +kernel
theorem d_L_law_1148 : decode b_L_law 1148 = .ok (.iaload, 1) := by decide +kernel
theorem d_L_law_1149 : decode b_L_law 1149 = .ok (.aload_n 3, 1) := by decide +kernel
theorem d_L_law_1150 : decode b_L_law 1150 = .ok (.invokestatic 160, 3) := by decide +kernel
theorem d_L_law_1153 : decode b_L_law 1153 = .ok (.istore 5, 2) := by decide +kernel
theorem d_L_law_1155 : decode b_L_law 1155 = .ok (.aload_n 2, 1) := by decide +kernel
theorem d_L_law_1156 : decode b_L_law 1156 = .ok (.aload_n 0, 1) := by decide +kernel
theorem d_L_law_1157 : decode b_L_law 1157 = .ok (.iload 4, 2) := by decide +kernel
theorem d_L_law_1159 : decode b_L_law 1159 = .ok (.iconst 1, 1) := by decide +kernel
theorem d_L_law_1160 : decode b_L_law 1160 = .ok (.iadd, 1) := by decide +kernel
theorem d_L_law_1161 : decode b_L_law 1161 = .ok (.iaload, 1) := by decide +kernel
theorem d_L_law_1162 : decode b_L_law 1162 = .ok (.aload_n 0, 1) := by decide +kernel
theorem d_L_law_1163 : decode b_L_law 1163 = .ok (.iload 4, 2) := by decide +kernel
theorem d_L_law_1165 : decode b_L_law 1165 = .ok (.iconst 2, 1) := by decide +kernel
theorem d_L_law_1166 : decode b_L_law 1166 = .ok (.iadd, 1) := by decide +kernel
theorem d_L_law_1167 : decode b_L_law 1167 = .ok (.iaload, 1) := by decide +kernel
theorem d_L_law_1168 : decode b_L_law 1168 = .ok (.aload_n 0, 1) := by decide +kernel
theorem d_L_law_1169 : decode b_L_law 1169 = .ok (.iload 4, 2) := by decide +kernel
theorem d_L_law_1171 : decode b_L_law 1171 = .ok (.iconst 3, 1) := by decide +kernel
theorem d_L_law_1172 : decode b_L_law 1172 = .ok (.iadd, 1) := by decide +kernel
theorem d_L_law_1173 : decode b_L_law 1173 = .ok (.iaload, 1) := by decide +kernel
theorem d_L_law_1174 : decode b_L_law 1174 = .ok (.invokevirtual 162, 3) := by decide +kernel
theorem d_L_law_1177 : decode b_L_law 1177 = .ok (.istore 6, 2) := by decide +kernel
theorem d_L_law_1179 : decode b_L_law 1179 = .ok (.aload_n 2, 1) := by decide +kernel
theorem d_L_law_1180 : decode b_L_law 1180 = .ok (.invokevirtual 113, 3) := by decide +kernel
theorem d_L_law_1183 : decode b_L_law 1183 = .ok (.iload 5, 2) := by decide +kernel
theorem d_L_law_1185 : decode b_L_law 1185 = .ok (.if_icmp .eq 5, 3) := by decide +kernel
theorem d_L_law_1188 : decode b_L_law 1188 = .ok (.iconst 0, 1) := by decide +kernel
theorem d_L_law_1189 : decode b_L_law 1189 = .ok (.ireturn, 1) := by decide +kernel
theorem d_L_law_1190 : decode b_L_law 1190 = .ok (.iload 5, 2) := by decide +kernel
theorem d_L_law_1192 : decode b_L_law 1192 = .ok (.ifCond .ne 15, 3) := by decide +kernel
theorem d_L_law_1195 : decode b_L_law 1195 = .ok (.aload_n 3, 1) := by decide +kernel
theorem d_L_law_1196 : decode b_L_law 1196 = .ok (.iconst 0, 1) := by decide +kernel
theorem d_L_law_1197 : decode b_L_law 1197 = .ok (.laload, 1) := by decide +kernel
theorem d_L_law_1198 : decode b_L_law 1198 = .ok (.iload 6, 2) := by decide +kernel
theorem d_L_law_1200 : decode b_L_law 1200 = .ok (.i2l, 1) := by decide +kernel
theorem d_L_law_1201 : decode b_L_law 1201 = .ok (.lcmp, 1) := by decide +kernel
theorem d_L_law_1202 : decode b_L_law 1202 = .ok (.ifCond .eq 5, 3) := by decide +kernel
theorem d_L_law_1205 : decode b_L_law 1205 = .ok (.iconst 0, 1) := by decide +kernel
theorem d_L_law_1206 : decode b_L_law 1206 = .ok (.ireturn, 1) := by decide +kernel
theorem d_L_law_1207 : decode b_L_law 1207 = .ok (.goto 734, 3) := by decide +kernel
theorem d_L_law_1210 : decode b_L_law 1210 = .ok (.aload_n 1, 1) := by decide +kernel
theorem d_L_law_1211 : decode b_L_law 1211 = .ok (.aload_n 0, 1) := by decide +kernel
theorem d_L_law_1212 : decode b_L_law 1212 = .ok (.iload 4, 2) := by decide +kernel
theorem d_L_law_1214 : decode b_L_law 1214 = .ok (.iconst 1, 1) := by decide +kernel
theorem d_L_law_1215 : decode b_L_law 1215 = .ok (.iadd, 1) := by decide +kernel
theorem d_L_law_1216 : decode b_L_law 1216 = .ok (.iaload, 1) := by decide +kernel
theorem d_L_law_1217 : decode b_L_law 1217 = .ok (.aload_n 0, 1) := by decide +kernel
theorem d_L_law_1218 : decode b_L_law 1218 = .ok (.iload 4, 2) := by decide +kernel
theorem d_L_law_1220 : decode b_L_law 1220 = .ok (.iconst 2, 1) := by decide +kernel
theorem d_L_law_1221 : decode b_L_law 1221 = .ok (.iadd, 1) := by decide +kernel
theorem d_L_law_1222 : decode b_L_law 1222 = .ok (.iaload, 1) := by decide +kernel
theorem d_L_law_1223 : decode b_L_law 1223 = .ok (.aload_n 3, 1) := by decide +kernel
theorem d_L_law_1224 : decode b_L_law 1224 = .ok (.invokestatic 163, 3) := by decide +kernel
theorem d_L_law_1227 : decode b_L_law 1227 = .ok (.istore 5, 2) := by decide +kernel
theorem d_L_law_1229 : decode b_L_law 1229 = .ok (.aload_n 2, 1) := by decide +kernel
theorem d_L_law_1230 : decode b_L_law 1230 = .ok (.aload_n 0, 1) := by decide +kernel
theorem d_L_law_1231 : decode b_L_law 1231 = .ok (.iload 4, 2) := by decide +kernel
theorem d_L_law_1233 : decode b_L_law 1233 = .ok (.iconst 1, 1) := by decide +kernel
theorem d_L_law_1234 : decode b_L_law 1234 = .ok (.iadd, 1) := by decide +kernel
theorem d_L_law_1235 : decode b_L_law 1235 = .ok (.iaload, 1) := by decide +kernel
theorem d_L_law_1236 : decode b_L_law 1236 = .ok (.aload_n 0, 1) := by decide +kernel
theorem d_L_law_1237 : decode b_L_law 1237 = .ok (.iload 4, 2) := by decide +kernel
theorem d_L_law_1239 : decode b_L_law 1239 = .ok (.iconst 2, 1) := by decide +kernel
theorem d_L_law_1240 : decode b_L_law 1240 = .ok (.iadd, 1) := by decide +kernel
theorem d_L_law_1241 : decode b_L_law 1241 = .ok (.iaload, 1) := by decide +kernel
theorem d_L_law_1242 : decode b_L_law 1242 = .ok (.invokevirtual 165, 3) := by decide +kernel
theorem d_L_law_1245 : decode b_L_law 1245 = .ok (.istore 6, 2) := by decide +kernel
theorem d_L_law_1247 : decode b_L_law 1247 = .ok (.aload_n 2, 1) := by decide +kernel
theorem d_L_law_1248 : decode b_L_law 1248 = .ok (.invokevirtual 113, 3) := by decide +kernel
theorem d_L_law_1251 : decode b_L_law 1251 = .ok (.iload 5, 2) := by decide +kernel
theorem d_L_law_1253 : decode b_L_law 1253 = .ok (.if_icmp .eq 5, 3) := by decide +kernel
theorem d_L_law_1256 : decode b_L_law 1256 = .ok (.iconst 0, 1) := by decide +kernel
theorem d_L_law_1257 : decode b_L_law 1257 = .ok (.ireturn, 1) := by decide +kernel
theorem d_L_law_1258 : decode b_L_law 1258 = .ok (.iload 5, 2) := by decide +kernel
theorem d_L_law_1260 : decode b_L_law 1260 = .ok (.ifCond .ne 15, 3) := by decide +kernel
theorem d_L_law_1263 : decode b_L_law 1263 = .ok (.aload_n 3, 1) := by decide +kernel
theorem d_L_law_1264 : decode b_L_law 1264 = .ok (.iconst 0, 1) := by decide +kernel
theorem d_L_law_1265 : decode b_L_law 1265 = .ok (.laload, 1) := by decide +kernel
theorem d_L_law_1266 : decode b_L_law 1266 = .ok (.iload 6, 2) := by decide +kernel
theorem d_L_law_1268 : decode b_L_law 1268 = .ok (.i2l, 1) := by decide +kernel
theorem d_L_law_1269 : decode b_L_law 1269 = .ok (.lcmp, 1) := by decide +kernel
theorem d_L_law_1270 : decode b_L_law 1270 = .ok (.ifCond .eq 5, 3) := by decide +kernel
theorem d_L_law_1273 : decode b_L_law 1273 = .ok (.iconst 0, 1) := by decide +kernel
theorem d_L_law_1274 : decode b_L_law 1274 = .ok (.ireturn, 1) := by decide +kernel
theorem d_L_law_1275 : decode b_L_law 1275 = .ok (.goto 666, 3) := by decide +kernel
theorem d_L_law_1278 : decode b_L_law 1278 = .ok (.aload_n 1, 1) := by decide +kernel
theorem d_L_law_1279 : decode b_L_law 1279 = .ok (.aload_n 3, 1) := by decide +kernel
theorem d_L_law_1280 : decode b_L_law 1280 = .ok (.invokestatic 166, 3) := by decide +kernel
theorem d_L_law_1283 : decode b_L_law 1283 = .ok (.istore 5, 2) := by decide +kernel
theorem d_L_law_1285 : decode b_L_law 1285 = .ok (.aload_n 2, 1) := by decide +kernel
theorem d_L_law_1286 : decode b_L_law 1286 = .ok (.invokevirtual 168, 3) := by decide +kernel
theorem d_L_law_1289 : decode b_L_law 1289 = .ok (.istore 6, 2) := by decide +kernel
theorem d_L_law_1291 : decode b_L_law 1291 = .ok (.aload_n 2, 1) := by decide +kernel
theorem d_L_law_1292 : decode b_L_law 1292 = .ok (.invokevirtual 113, 3) := by decide +kernel
theorem d_L_law_1295 : decode b_L_law 1295 = .ok (.iload 5, 2) := by decide +kernel
theorem d_L_law_1297 : decode b_L_law 1297 = .ok (.if_icmp .eq 5, 3) := by decide +kernel
theorem d_L_law_1300 : decode b_L_law 1300 = .ok (.iconst 0, 1) := by decide +kernel
theorem d_L_law_1301 : decode b_L_law 1301 = .ok (.ireturn, 1) := by decide +kernel
theorem d_L_law_1302 : decode b_L_law 1302 = .ok (.iload 5, 2) := by decide +kernel
theorem d_L_law_1304 : decode b_L_law 1304 = .ok (.ifCond .ne 15, 3) := by decide +kernel
theorem d_L_law_1307 : decode b_L_law 1307 = .ok (.aload_n 3, 1) := by decide +kernel
theorem d_L_law_1308 : decode b_L_law 1308 = .ok (.iconst 0, 1) := by decide +kernel
theorem d_L_law_1309 : decode b_L_law 1309 = .ok (.laload, 1) := by decide +kernel
theorem d_L_law_1310 : decode b_L_law 1310 = .ok (.iload 6, 2) := by decide +kernel
theorem d_L_law_1312 : decode b_L_law 1312 = .ok (.i2l, 1) := by decide +kernel
theorem d_L_law_1313 : decode b_L_law 1313 = .ok (.lcmp, 1) := by decide +kernel
theorem d_L_law_1314 : decode b_L_law 1314 = .ok (.ifCond .eq 5, 3) := by decide +kernel
theorem d_L_law_1317 : decode b_L_law 1317 = .ok (.iconst 0, 1) := by decide +kernel
theorem d_L_law_1318 : decode b_L_law 1318 = .ok (.ireturn, 1) := by decide +kernel
theorem d_L_law_1319 : decode b_L_law 1319 = .ok (.goto 622, 3) := by decide +kernel
theorem d_L_law_1322 : decode b_L_law 1322 = .ok (.aload_n 1, 1) := by decide +kernel
theorem d_L_law_1323 : decode b_L_law 1323 = .ok (.aload_n 0, 1) := by decide +kernel
theorem d_L_law_1324 : decode b_L_law 1324 = .ok (.iload 4, 2) := by decide +kernel
theorem d_L_law_1326 : decode b_L_law 1326 = .ok (.iconst 1, 1) := by decide +kernel
theorem d_L_law_1327 : decode b_L_law 1327 = .ok (.iadd, 1) := by decide +kernel
theorem d_L_law_1328 : decode b_L_law 1328 = .ok (.iaload, 1) := by decide +kernel
theorem d_L_law_1329 : decode b_L_law 1329 = .ok (.aload_n 0, 1) := by decide +kernel
theorem d_L_law_1330 : decode b_L_law 1330 = .ok (.iload 4, 2) := by decide +kernel
theorem d_L_law_1332 : decode b_L_law 1332 = .ok (.iconst 2, 1) := by decide +kernel
theorem d_L_law_1333 : decode b_L_law 1333 = .ok (.iadd, 1) := by decide +kernel
theorem d_L_law_1334 : decode b_L_law 1334 = .ok (.iaload, 1) := by decide +kernel
theorem d_L_law_1335 : decode b_L_law 1335 = .ok (.aload_n 0, 1) := by decide +kernel
theorem d_L_law_1336 : decode b_L_law 1336 = .ok (.iload 4, 2) := by decide +kernel
theorem d_L_law_1338 : decode b_L_law 1338 = .ok (.iconst 3, 1) := by decide +kernel
theorem d_L_law_1339 : decode b_L_law 1339 = .ok (.iadd, 1) := by decide +kernel
theorem d_L_law_1340 : decode b_L_law 1340 = .ok (.iaload, 1) := by decide +kernel
theorem d_L_law_1341 : decode b_L_law 1341 = .ok (.aload_n 3, 1) := by decide +kernel
theorem d_L_law_1342 : decode b_L_law 1342 = .ok (.invokestatic 169, 3) := by decide +kernel
theorem d_L_law_1345 : decode b_L_law 1345 = .ok (.istore 5, 2) := by decide +kernel
theorem d_L_law_1347 : decode b_L_law 1347 = .ok (.aload_n 2, 1) := by decide +kernel
theorem d_L_law_1348 : decode b_L_law 1348 = .ok (.aload_n 0, 1) := by decide +kernel
theorem d_L_law_1349 : decode b_L_law 1349 = .ok (.iload 4, 2) := by decide +kernel
theorem d_L_law_1351 : decode b_L_law 1351 = .ok (.iconst 1, 1) := by decide +kernel
theorem d_L_law_1352 : decode b_L_law 1352 = .ok (.iadd, 1) := by decide +kernel
theorem d_L_law_1353 : decode b_L_law 1353 = .ok (.iaload, 1) := by decide +kernel
theorem d_L_law_1354 : decode b_L_law 1354 = .ok (.aload_n 0, 1) := by decide +kernel
theorem d_L_law_1355 : decode b_L_law 1355 = .ok (.iload 4, 2) := by decide +kernel
theorem d_L_law_1357 : decode b_L_law 1357 = .ok (.iconst 2, 1) := by decide +kernel
theorem d_L_law_1358 : decode b_L_law 1358 = .ok (.iadd, 1) := by decide +kernel
theorem d_L_law_1359 : decode b_L_law 1359 = .ok (.iaload, 1) := by decide +kernel
theorem d_L_law_1360 : decode b_L_law 1360 = .ok (.aload_n 0, 1) := by decide +kernel
theorem d_L_law_1361 : decode b_L_law 1361 = .ok (.iload 4, 2) := by decide +kernel
theorem d_L_law_1363 : decode b_L_law 1363 = .ok (.iconst 3, 1) := by decide +kernel
theorem d_L_law_1364 : decode b_L_law 1364 = .ok (.iadd, 1) := by decide +kernel
theorem d_L_law_1365 : decode b_L_law 1365 = .ok (.iaload, 1) := by decide +kernel
theorem d_L_law_1366 : decode b_L_law 1366 = .ok (.invokevirtual 171, 3) := by decide +kernel
theorem d_L_law_1369 : decode b_L_law 1369 = .ok (.istore 6, 2) := by decide +kernel
theorem d_L_law_1371 : decode b_L_law 1371 = .ok (.aload_n 2, 1) := by decide +kernel
theorem d_L_law_1372 : decode b_L_law 1372 = .ok (.invokevirtual 113, 3) := by decide +kernel
theorem d_L_law_1375 : decode b_L_law 1375 = .ok (.iload 5, 2) := by decide +kernel
theorem d_L_law_1377 : decode b_L_law 1377 = .ok (.if_icmp .eq 5, 3) := by decide +kernel
theorem d_L_law_1380 : decode b_L_law 1380 = .ok (.iconst 0, 1) := by decide +kernel
theorem d_L_law_1381 : decode b_L_law 1381 = .ok (.ireturn, 1) := by decide +kernel
theorem d_L_law_1382 : decode b_L_law 1382 = .ok (.iload 5, 2) := by decide +kernel
theorem d_L_law_1384 : decode b_L_law 1384 = .ok (.ifCond .ne 15, 3) := by decide +kernel
theorem d_L_law_1387 : decode b_L_law 1387 = .ok (.aload_n 3, 1) := by decide +kernel
theorem d_L_law_1388 : decode b_L_law 1388 = .ok (.iconst 0, 1) := by decide +kernel
theorem d_L_law_1389 : decode b_L_law 1389 = .ok (.laload, 1) := by decide +kernel
theorem d_L_law_1390 : decode b_L_law 1390 = .ok (.iload 6, 2) := by decide +kernel
theorem d_L_law_1392 : decode b_L_law 1392 = .ok (.i2l, 1) := by decide +kernel
theorem d_L_law_1393 : decode b_L_law 1393 = .ok (.lcmp, 1) := by decide +kernel
theorem d_L_law_1394 : decode b_L_law 1394 = .ok (.ifCond .eq 5, 3) := by decide +kernel
theorem d_L_law_1397 : decode b_L_law 1397 = .ok (.iconst 0, 1) := by decide +kernel
theorem d_L_law_1398 : decode b_L_law 1398 = .ok (.ireturn, 1) := by decide +kernel
theorem d_L_law_1399 : decode b_L_law 1399 = .ok (.goto 542, 3) := by decide +kernel
theorem d_L_law_1402 : decode b_L_law 1402 = .ok (.aload_n 1, 1) := by decide +kernel
theorem d_L_law_1403 : decode b_L_law 1403 = .ok (.aload_n 0, 1) := by decide +kernel
theorem d_L_law_1404 : decode b_L_law 1404 = .ok (.iload 4, 2) := by decide +kernel
theorem d_L_law_1406 : decode b_L_law 1406 = .ok (.iconst 1, 1) := by decide +kernel
theorem d_L_law_1407 : decode b_L_law 1407 = .ok (.iadd, 1) := by decide +kernel
theorem d_L_law_1408 : decode b_L_law 1408 = .ok (.iaload, 1) := by decide +kernel
theorem d_L_law_1409 : decode b_L_law 1409 = .ok (.aload_n 0, 1) := by decide +kernel
theorem d_L_law_1410 : decode b_L_law 1410 = .ok (.iload 4, 2) := by decide +kernel
theorem d_L_law_1412 : decode b_L_law 1412 = .ok (.iconst 2, 1) := by decide +kernel
theorem d_L_law_1413 : decode b_L_law 1413 = .ok (.iadd, 1) := by decide +kernel
theorem d_L_law_1414 : decode b_L_law 1414 = .ok (.iaload, 1) := by decide +kernel
theorem d_L_law_1415 : decode b_L_law 1415 = .ok (.aload_n 0, 1) := by decide +kernel
theorem d_L_law_1416 : decode b_L_law 1416 = .ok (.iload 4, 2) := by decide +kernel
theorem d_L_law_1418 : decode b_L_law 1418 = .ok (.iconst 3, 1) := by decide +kernel
theorem d_L_law_1419 : decode b_L_law 1419 = .ok (.iadd, 1) := by decide +kernel
theorem d_L_law_1420 : decode b_L_law 1420 = .ok (.iaload, 1) := by decide +kernel
theorem d_L_law_1421 : decode b_L_law 1421 = .ok (.aload_n 3, 1) := by decide +kernel
theorem d_L_law_1422 : decode b_L_law 1422 = .ok (.invokestatic 172, 3) := by decide +kernel
theorem d_L_law_1425 : decode b_L_law 1425 = .ok (.istore 5, 2) := by decide +kernel
theorem d_L_law_1427 : decode b_L_law 1427 = .ok (.aload_n 2, 1) := by decide +kernel
theorem d_L_law_1428 : decode b_L_law 1428 = .ok (.aload_n 0, 1) := by decide +kernel
theorem d_L_law_1429 : decode b_L_law 1429 = .ok (.iload 4, 2) := by decide +kernel
theorem d_L_law_1431 : decode b_L_law 1431 = .ok (.iconst 1, 1) := by decide +kernel
theorem d_L_law_1432 : decode b_L_law 1432 = .ok (.iadd, 1) := by decide +kernel
theorem d_L_law_1433 : decode b_L_law 1433 = .ok (.iaload, 1) := by decide +kernel
theorem d_L_law_1434 : decode b_L_law 1434 = .ok (.aload_n 0, 1) := by decide +kernel
theorem d_L_law_1435 : decode b_L_law 1435 = .ok (.iload 4, 2) := by decide +kernel
theorem d_L_law_1437 : decode b_L_law 1437 = .ok (.iconst 2, 1) := by decide +kernel
theorem d_L_law_1438 : decode b_L_law 1438 = .ok (.iadd, 1) := by decide +kernel
theorem d_L_law_1439 : decode b_L_law 1439 = .ok (.iaload, 1) := by decide +kernel
theorem d_L_law_1440 : decode b_L_law 1440 = .ok (.aload_n 0, 1) := by decide +kernel
theorem d_L_law_1441 : decode b_L_law 1441 = .ok (.iload 4, 2) := by decide +kernel
theorem d_L_law_1443 : decode b_L_law 1443 = .ok (.iconst 3, 1) := by decide +kernel
theorem d_L_law_1444 : decode b_L_law 1444 = .ok (.iadd, 1) := by decide +kernel
theorem d_L_law_1445 : decode b_L_law 1445 = .ok (.iaload, 1) := by decide +kernel
theorem d_L_law_1446 : decode b_L_law 1446 = .ok (.invokevirtual 174, 3) := by decide +kernel
theorem d_L_law_1449 : decode b_L_law 1449 = .ok (.lstore 6, 2) := by decide +kernel
theorem d_L_law_1451 : decode b_L_law 1451 = .ok (.aload_n 2, 1) := by decide +kernel
theorem d_L_law_1452 : decode b_L_law 1452 = .ok (.invokevirtual 113, 3) := by decide +kernel
theorem d_L_law_1455 : decode b_L_law 1455 = .ok (.iload 5, 2) := by decide +kernel
theorem d_L_law_1457 : decode b_L_law 1457 = .ok (.if_icmp .eq 5, 3) := by decide +kernel
theorem d_L_law_1460 : decode b_L_law 1460 = .ok (.iconst 0, 1) := by decide +kernel
theorem d_L_law_1461 : decode b_L_law 1461 = .ok (.ireturn, 1) := by decide +kernel
theorem d_L_law_1462 : decode b_L_law 1462 = .ok (.iload 5, 2) := by decide +kernel
theorem d_L_law_1464 : decode b_L_law 1464 = .ok (.ifCond .ne 14, 3) := by decide +kernel
theorem d_L_law_1467 : decode b_L_law 1467 = .ok (.aload_n 3, 1) := by decide +kernel
theorem d_L_law_1468 : decode b_L_law 1468 = .ok (.iconst 0, 1) := by decide +kernel
theorem d_L_law_1469 : decode b_L_law 1469 = .ok (.laload, 1) := by decide +kernel
theorem d_L_law_1470 : decode b_L_law 1470 = .ok (.lload 6, 2) := by decide +kernel
theorem d_L_law_1472 : decode b_L_law 1472 = .ok (.lcmp, 1) := by decide +kernel
theorem d_L_law_1473 : decode b_L_law 1473 = .ok (.ifCond .eq 5, 3) := by decide +kernel
theorem d_L_law_1476 : decode b_L_law 1476 = .ok (.iconst 0, 1) := by decide +kernel
theorem d_L_law_1477 : decode b_L_law 1477 = .ok (.ireturn, 1) := by decide +kernel
theorem d_L_law_1478 : decode b_L_law 1478 = .ok (.goto 463, 3) := by decide +kernel
theorem d_L_law_1481 : decode b_L_law 1481 = .ok (.aload_n 1, 1) := by decide +kernel
theorem d_L_law_1482 : decode b_L_law 1482 = .ok (.aload_n 0, 1) := by decide +kernel
theorem d_L_law_1483 : decode b_L_law 1483 = .ok (.iload 4, 2) := by decide +kernel
theorem d_L_law_1485 : decode b_L_law 1485 = .ok (.iconst 1, 1) := by decide +kernel
theorem d_L_law_1486 : decode b_L_law 1486 = .ok (.iadd, 1) := by decide +kernel
theorem d_L_law_1487 : decode b_L_law 1487 = .ok (.iaload, 1) := by decide +kernel
theorem d_L_law_1488 : decode b_L_law 1488 = .ok (.aload_n 0, 1) := by decide +kernel
theorem d_L_law_1489 : decode b_L_law 1489 = .ok (.iload 4, 2) := by decide +kernel
theorem d_L_law_1491 : decode b_L_law 1491 = .ok (.iconst 2, 1) := by decide +kernel
theorem d_L_law_1492 : decode b_L_law 1492 = .ok (.iadd, 1) := by decide +kernel
theorem d_L_law_1493 : decode b_L_law 1493 = .ok (.iaload, 1) := by decide +kernel
theorem d_L_law_1494 : decode b_L_law 1494 = .ok (.aload_n 3, 1) := by decide +kernel
theorem d_L_law_1495 : decode b_L_law 1495 = .ok (.invokestatic 175, 3) := by decide +kernel
theorem d_L_law_1498 : decode b_L_law 1498 = .ok (.istore 5, 2) := by decide +kernel
theorem d_L_law_1500 : decode b_L_law 1500 = .ok (.aload_n 2, 1) := by decide +kernel
theorem d_L_law_1501 : decode b_L_law 1501 = .ok (.aload_n 0, 1) := by decide +kernel
theorem d_L_law_1502 : decode b_L_law 1502 = .ok (.iload 4, 2) := by decide +kernel
theorem d_L_law_1504 : decode b_L_law 1504 = .ok (.iconst 1, 1) := by decide +kernel
theorem d_L_law_1505 : decode b_L_law 1505 = .ok (.iadd, 1) := by decide +kernel
theorem d_L_law_1506 : decode b_L_law 1506 = .ok (.iaload, 1) := by decide +kernel
theorem d_L_law_1507 : decode b_L_law 1507 = .ok (.aload_n 0, 1) := by decide +kernel
theorem d_L_law_1508 : decode b_L_law 1508 = .ok (.iload 4, 2) := by decide +kernel
theorem d_L_law_1510 : decode b_L_law 1510 = .ok (.iconst 2, 1) := by decide +kernel
theorem d_L_law_1511 : decode b_L_law 1511 = .ok (.iadd, 1) := by decide +kernel
theorem d_L_law_1512 : decode b_L_law 1512 = .ok (.iaload, 1) := by decide +kernel
theorem d_L_law_1513 : decode b_L_law 1513 = .ok (.invokevirtual 177, 3) := by decide +kernel
theorem d_L_law_1516 : decode b_L_law 1516 = .ok (.lstore 6, 2) := by decide +kernel
theorem d_L_law_1518 : decode b_L_law 1518 = .ok (.aload_n 2, 1) := by decide +kernel
theorem d_L_law_1519 : decode b_L_law 1519 = .ok (.invokevirtual 113, 3) := by decide +kernel
theorem d_L_law_1522 : decode b_L_law 1522 = .ok (.iload 5, 2) := by decide +kernel
theorem d_L_law_1524 : decode b_L_law 1524 = .ok (.if_icmp .eq 5, 3) := by decide +kernel
theorem d_L_law_1527 : decode b_L_law 1527 = .ok (.iconst 0, 1) := by decide +kernel
theorem d_L_law_1528 : decode b_L_law 1528 = .ok (.ireturn, 1) := by decide +kernel
theorem d_L_law_1529 : decode b_L_law 1529 = .ok (.iload 5, 2) := by decide +kernel
theorem d_L_law_1531 : decode b_L_law 1531 = .ok (.ifCond .ne 14, 3) := by decide +kernel
theorem d_L_law_1534 : decode b_L_law 1534 = .ok (.aload_n 3, 1) := by decide +kernel
theorem d_L_law_1535 : decode b_L_law 1535 = .ok (.iconst 0, 1) := by decide +kernel
theorem d_L_law_1536 : decode b_L_law 1536 = .ok (.laload, 1) := by decide +kernel
theorem d_L_law_1537 : decode b_L_law 1537 = .ok (.lload 6, 2) := by decide +kernel
theorem d_L_law_1539 : decode b_L_law 1539 = .ok (.lcmp, 1) := by decide +kernel
theorem d_L_law_1540 : decode b_L_law 1540 = .ok (.ifCond .eq 5, 3) := by decide +kernel
theorem d_L_law_1543 : decode b_L_law 1543 = .ok (.iconst 0, 1) := by decide +kernel
theorem d_L_law_1544 : decode b_L_law 1544 = .ok (.ireturn, 1) := by decide +kernel
theorem d_L_law_1545 : decode b_L_law 1545 = .ok (.goto 396, 3) := by decide +kernel
theorem d_L_law_1548 : decode b_L_law 1548 = .ok (.aload_n 1, 1) := by decide +kernel
theorem d_L_law_1549 : decode b_L_law 1549 = .ok (.aload_n 0, 1) := by decide +kernel
theorem d_L_law_1550 : decode b_L_law 1550 = .ok (.iload 4, 2) := by decide +kernel
theorem d_L_law_1552 : decode b_L_law 1552 = .ok (.iconst 1, 1) := by decide +kernel
theorem d_L_law_1553 : decode b_L_law 1553 = .ok (.iadd, 1) := by decide +kernel
theorem d_L_law_1554 : decode b_L_law 1554 = .ok (.iaload, 1) := by decide +kernel
theorem d_L_law_1555 : decode b_L_law 1555 = .ok (.aload_n 3, 1) := by decide +kernel
theorem d_L_law_1556 : decode b_L_law 1556 = .ok (.invokestatic 178, 3) := by decide +kernel
theorem d_L_law_1559 : decode b_L_law 1559 = .ok (.istore 5, 2) := by decide +kernel
theorem d_L_law_1561 : decode b_L_law 1561 = .ok (.aload_n 2, 1) := by decide +kernel
theorem d_L_law_1562 : decode b_L_law 1562 = .ok (.aload_n 0, 1) := by decide +kernel
theorem d_L_law_1563 : decode b_L_law 1563 = .ok (.iload 4, 2) := by decide +kernel
theorem d_L_law_1565 : decode b_L_law 1565 = .ok (.iconst 1, 1) := by decide +kernel
theorem d_L_law_1566 : decode b_L_law 1566 = .ok (.iadd, 1) := by decide +kernel
theorem d_L_law_1567 : decode b_L_law 1567 = .ok (.iaload, 1) := by decide +kernel
theorem d_L_law_1568 : decode b_L_law 1568 = .ok (.invokevirtual 180, 3) := by decide +kernel
theorem d_L_law_1571 : decode b_L_law 1571 = .ok (.istore 6, 2) := by decide +kernel
theorem d_L_law_1573 : decode b_L_law 1573 = .ok (.aload_n 2, 1) := by decide +kernel
theorem d_L_law_1574 : decode b_L_law 1574 = .ok (.invokevirtual 113, 3) := by decide +kernel
theorem d_L_law_1577 : decode b_L_law 1577 = .ok (.iload 5, 2) := by decide +kernel
theorem d_L_law_1579 : decode b_L_law 1579 = .ok (.if_icmp .eq 5, 3) := by decide +kernel
theorem d_L_law_1582 : decode b_L_law 1582 = .ok (.iconst 0, 1) := by decide +kernel
theorem d_L_law_1583 : decode b_L_law 1583 = .ok (.ireturn, 1) := by decide +kernel
theorem d_L_law_1584 : decode b_L_law 1584 = .ok (.iload 5, 2) := by decide +kernel
theorem d_L_law_1586 : decode b_L_law 1586 = .ok (.ifCond .ne 22, 3) := by decide +kernel
theorem d_L_law_1589 : decode b_L_law 1589 = .ok (.aload_n 3, 1) := by decide +kernel
theorem d_L_law_1590 : decode b_L_law 1590 = .ok (.iconst 0, 1) := by decide +kernel
theorem d_L_law_1591 : decode b_L_law 1591 = .ok (.laload, 1) := by decide +kernel
theorem d_L_law_1592 : decode b_L_law 1592 = .ok (.iload 6, 2) := by decide +kernel
theorem d_L_law_1594 : decode b_L_law 1594 = .ok (.ifCond .eq 7, 3) := by decide +kernel
theorem d_L_law_1597 : decode b_L_law 1597 = .ok (.lconst 1, 1) := by decide +kernel
theorem d_L_law_1598 : decode b_L_law 1598 = .ok (.goto 4, 3) := by decide +kernel
theorem d_L_law_1601 : decode b_L_law 1601 = .ok (.lconst 0, 1) := by decide +kernel
theorem d_L_law_1602 : decode b_L_law 1602 = .ok (.lcmp, 1) := by decide +kernel
theorem d_L_law_1603 : decode b_L_law 1603 = .ok (.ifCond .eq 5, 3) := by decide +kernel
theorem d_L_law_1606 : decode b_L_law 1606 = .ok (.iconst 0, 1) := by decide +kernel
theorem d_L_law_1607 : decode b_L_law 1607 = .ok (.ireturn, 1) := by decide +kernel
theorem d_L_law_1608 : decode b_L_law 1608 = .ok (.goto 333, 3) := by decide +kernel
theorem d_L_law_1611 : decode b_L_law 1611 = .ok (.aload_n 1, 1) := by decide +kernel
theorem d_L_law_1612 : decode b_L_law 1612 = .ok (.aload_n 0, 1) := by decide +kernel
theorem d_L_law_1613 : decode b_L_law 1613 = .ok (.iload 4, 2) := by decide +kernel
theorem d_L_law_1615 : decode b_L_law 1615 = .ok (.iconst 1, 1) := by decide +kernel
theorem d_L_law_1616 : decode b_L_law 1616 = .ok (.iadd, 1) := by decide +kernel
theorem d_L_law_1617 : decode b_L_law 1617 = .ok (.iaload, 1) := by decide +kernel
theorem d_L_law_1618 : decode b_L_law 1618 = .ok (.aload_n 0, 1) := by decide +kernel
theorem d_L_law_1619 : decode b_L_law 1619 = .ok (.iload 4, 2) := by decide +kernel
theorem d_L_law_1621 : decode b_L_law 1621 = .ok (.iconst 2, 1) := by decide +kernel
theorem d_L_law_1622 : decode b_L_law 1622 = .ok (.iadd, 1) := by decide +kernel
theorem d_L_law_1623 : decode b_L_law 1623 = .ok (.iaload, 1) := by decide +kernel
theorem d_L_law_1624 : decode b_L_law 1624 = .ok (.aload_n 0, 1) := by decide +kernel
theorem d_L_law_1625 : decode b_L_law 1625 = .ok (.iload 4, 2) := by decide +kernel
theorem d_L_law_1627 : decode b_L_law 1627 = .ok (.iconst 3, 1) := by decide +kernel
theorem d_L_law_1628 : decode b_L_law 1628 = .ok (.iadd, 1) := by decide +kernel
theorem d_L_law_1629 : decode b_L_law 1629 = .ok (.iaload, 1) := by decide +kernel
theorem d_L_law_1630 : decode b_L_law 1630 = .ok (.aload_n 3, 1) := by decide +kernel
theorem d_L_law_1631 : decode b_L_law 1631 = .ok (.invokestatic 181, 3) := by decide +kernel
theorem d_L_law_1634 : decode b_L_law 1634 = .ok (.istore 5, 2) := by decide +kernel
theorem d_L_law_1636 : decode b_L_law 1636 = .ok (.aload_n 2, 1) := by decide +kernel
theorem d_L_law_1637 : decode b_L_law 1637 = .ok (.aload_n 0, 1) := by decide +kernel
theorem d_L_law_1638 : decode b_L_law 1638 = .ok (.iload 4, 2) := by decide +kernel
theorem d_L_law_1640 : decode b_L_law 1640 = .ok (.iconst 1, 1) := by decide +kernel
theorem d_L_law_1641 : decode b_L_law 1641 = .ok (.iadd, 1) := by decide +kernel
theorem d_L_law_1642 : decode b_L_law 1642 = .ok (.iaload, 1) := by decide +kernel
theorem d_L_law_1643 : decode b_L_law 1643 = .ok (.aload_n 0, 1) := by decide +kernel
theorem d_L_law_1644 : decode b_L_law 1644 = .ok (.iload 4, 2) := by decide +kernel
theorem d_L_law_1646 : decode b_L_law 1646 = .ok (.iconst 2, 1) := by decide +kernel
theorem d_L_law_1647 : decode b_L_law 1647 = .ok (.iadd, 1) := by decide +kernel
theorem d_L_law_1648 : decode b_L_law 1648 = .ok (.iaload, 1) := by decide +kernel
theorem d_L_law_1649 : decode b_L_law 1649 = .ok (.aload_n 0, 1) := by decide +kernel
theorem d_L_law_1650 : decode b_L_law 1650 = .ok (.iload 4, 2) := by decide +kernel
theorem d_L_law_1652 : decode b_L_law 1652 = .ok (.iconst 3, 1) := by decide +kernel
theorem d_L_law_1653 : decode b_L_law 1653 = .ok (.iadd, 1) := by decide +kernel
theorem d_L_law_1654 : decode b_L_law 1654 = .ok (.iaload, 1) := by decide +kernel
theorem d_L_law_1655 : decode b_L_law 1655 = .ok (.invokevirtual 183, 3) := by decide +kernel
theorem d_L_law_1658 : decode b_L_law 1658 = .ok (.lstore 6, 2) := by decide +kernel
theorem d_L_law_1660 : decode b_L_law 1660 = .ok (.aload_n 2, 1) := by decide +kernel
theorem d_L_law_1661 : decode b_L_law 1661 = .ok (.invokevirtual 113, 3) := by decide +kernel
theorem d_L_law_1664 : decode b_L_law 1664 = .ok (.iload 5, 2) := by decide +kernel
theorem d_L_law_1666 : decode b_L_law 1666 = .ok (.if_icmp .eq 5, 3) := by decide +kernel
theorem d_L_law_1669 : decode b_L_law 1669 = .ok (.iconst 0, 1) := by decide +kernel
theorem d_L_law_1670 : decode b_L_law 1670 = .ok (.ireturn, 1) := by decide +kernel
theorem d_L_law_1671 : decode b_L_law 1671 = .ok (.iload 5, 2) := by decide +kernel
theorem d_L_law_1673 : decode b_L_law 1673 = .ok (.ifCond .ne 14, 3) := by decide +kernel
theorem d_L_law_1676 : decode b_L_law 1676 = .ok (.aload_n 3, 1) := by decide +kernel
theorem d_L_law_1677 : decode b_L_law 1677 = .ok (.iconst 0, 1) := by decide +kernel
theorem d_L_law_1678 : decode b_L_law 1678 = .ok (.laload, 1) := by decide +kernel
theorem d_L_law_1679 : decode b_L_law 1679 = .ok (.lload 6, 2) := by decide +kernel
theorem d_L_law_1681 : decode b_L_law 1681 = .ok (.lcmp, 1) := by decide +kernel
theorem d_L_law_1682 : decode b_L_law 1682 = .ok (.ifCond .eq 5, 3) := by decide +kernel
theorem d_L_law_1685 : decode b_L_law 1685 = .ok (.iconst 0, 1) := by decide +kernel
theorem d_L_law_1686 : decode b_L_law 1686 = .ok (.ireturn, 1) := by decide +kernel
theorem d_L_law_1687 : decode b_L_law 1687 = .ok (.goto 254, 3) := by decide +kernel
theorem d_L_law_1690 : decode b_L_law 1690 = .ok (.aload_n 1, 1) := by decide +kernel
theorem d_L_law_1691 : decode b_L_law 1691 = .ok (.aload_n 0, 1) := by decide +kernel
theorem d_L_law_1692 : decode b_L_law 1692 = .ok (.iload 4, 2) := by decide +kernel
theorem d_L_law_1694 : decode b_L_law 1694 = .ok (.iconst 1, 1) := by decide +kernel
theorem d_L_law_1695 : decode b_L_law 1695 = .ok (.iadd, 1) := by decide +kernel
theorem d_L_law_1696 : decode b_L_law 1696 = .ok (.iaload, 1) := by decide +kernel
theorem d_L_law_1697 : decode b_L_law 1697 = .ok (.aload_n 0, 1) := by decide +kernel
theorem d_L_law_1698 : decode b_L_law 1698 = .ok (.iload 4, 2) := by decide +kernel
theorem d_L_law_1700 : decode b_L_law 1700 = .ok (.iconst 2, 1) := by decide +kernel
theorem d_L_law_1701 : decode b_L_law 1701 = .ok (.iadd, 1) := by decide +kernel
theorem d_L_law_1702 : decode b_L_law 1702 = .ok (.iaload, 1) := by decide +kernel
theorem d_L_law_1703 : decode b_L_law 1703 = .ok (.invokestatic 184, 3) := by decide +kernel
theorem d_L_law_1706 : decode b_L_law 1706 = .ok (.istore 5, 2) := by decide +kernel
theorem d_L_law_1708 : decode b_L_law 1708 = .ok (.aload_n 2, 1) := by decide +kernel
theorem d_L_law_1709 : decode b_L_law 1709 = .ok (.aload_n 0, 1) := by decide +kernel
theorem d_L_law_1710 : decode b_L_law 1710 = .ok (.iload 4, 2) := by decide +kernel
theorem d_L_law_1712 : decode b_L_law 1712 = .ok (.iconst 1, 1) := by decide +kernel
theorem d_L_law_1713 : decode b_L_law 1713 = .ok (.iadd, 1) := by decide +kernel
theorem d_L_law_1714 : decode b_L_law 1714 = .ok (.iaload, 1) := by decide +kernel
theorem d_L_law_1715 : decode b_L_law 1715 = .ok (.aload_n 0, 1) := by decide +kernel
theorem d_L_law_1716 : decode b_L_law 1716 = .ok (.iload 4, 2) := by decide +kernel
theorem d_L_law_1718 : decode b_L_law 1718 = .ok (.iconst 2, 1) := by decide +kernel
theorem d_L_law_1719 : decode b_L_law 1719 = .ok (.iadd, 1) := by decide +kernel
theorem d_L_law_1720 : decode b_L_law 1720 = .ok (.iaload, 1) := by decide +kernel
theorem d_L_law_1721 : decode b_L_law 1721 = .ok (.invokevirtual 187, 3) := by decide +kernel
theorem d_L_law_1724 : decode b_L_law 1724 = .ok (.aload_n 2, 1) := by decide +kernel
theorem d_L_law_1725 : decode b_L_law 1725 = .ok (.invokevirtual 113, 3) := by decide +kernel
theorem d_L_law_1728 : decode b_L_law 1728 = .ok (.iload 5, 2) := by decide +kernel
theorem d_L_law_1730 : decode b_L_law 1730 = .ok (.if_icmp .eq 5, 3) := by decide +kernel
theorem d_L_law_1733 : decode b_L_law 1733 = .ok (.iconst 0, 1) := by decide +kernel
theorem d_L_law_1734 : decode b_L_law 1734 = .ok (.ireturn, 1) := by decide +kernel
theorem d_L_law_1735 : decode b_L_law 1735 = .ok (.goto 206, 3) := by decide +kernel
theorem d_L_law_1738 : decode b_L_law 1738 = .ok (.aload_n 1, 1) := by decide +kernel
theorem d_L_law_1739 : decode b_L_law 1739 = .ok (.aload_n 0, 1) := by decide +kernel
theorem d_L_law_1740 : decode b_L_law 1740 = .ok (.iload 4, 2) := by decide +kernel
theorem d_L_law_1742 : decode b_L_law 1742 = .ok (.iconst 1, 1) := by decide +kernel
theorem d_L_law_1743 : decode b_L_law 1743 = .ok (.iadd, 1) := by decide +kernel
theorem d_L_law_1744 : decode b_L_law 1744 = .ok (.iaload, 1) := by decide +kernel
theorem d_L_law_1745 : decode b_L_law 1745 = .ok (.aload_n 0, 1) := by decide +kernel
theorem d_L_law_1746 : decode b_L_law 1746 = .ok (.iload 4, 2) := by decide +kernel
theorem d_L_law_1748 : decode b_L_law 1748 = .ok (.iconst 2, 1) := by decide +kernel
theorem d_L_law_1749 : decode b_L_law 1749 = .ok (.iadd, 1) := by decide +kernel
theorem d_L_law_1750 : decode b_L_law 1750 = .ok (.iaload, 1) := by decide +kernel
theorem d_L_law_1751 : decode b_L_law 1751 = .ok (.aload_n 3, 1) := by decide +kernel
theorem d_L_law_1752 : decode b_L_law 1752 = .ok (.invokestatic 188, 3) := by decide +kernel
theorem d_L_law_1755 : decode b_L_law 1755 = .ok (.istore 5, 2) := by decide +kernel
theorem d_L_law_1757 : decode b_L_law 1757 = .ok (.aload_n 2, 1) := by decide +kernel
theorem d_L_law_1758 : decode b_L_law 1758 = .ok (.aload_n 0, 1) := by decide +kernel
theorem d_L_law_1759 : decode b_L_law 1759 = .ok (.iload 4, 2) := by decide +kernel
theorem d_L_law_1761 : decode b_L_law 1761 = .ok (.iconst 1, 1) := by decide +kernel
theorem d_L_law_1762 : decode b_L_law 1762 = .ok (.iadd, 1) := by decide +kernel
theorem d_L_law_1763 : decode b_L_law 1763 = .ok (.iaload, 1) := by decide +kernel
theorem d_L_law_1764 : decode b_L_law 1764 = .ok (.aload_n 0, 1) := by decide +kernel
theorem d_L_law_1765 : decode b_L_law 1765 = .ok (.iload 4, 2) := by decide +kernel
theorem d_L_law_1767 : decode b_L_law 1767 = .ok (.iconst 2, 1) := by decide +kernel
theorem d_L_law_1768 : decode b_L_law 1768 = .ok (.iadd, 1) := by decide +kernel
theorem d_L_law_1769 : decode b_L_law 1769 = .ok (.iaload, 1) := by decide +kernel
theorem d_L_law_1770 : decode b_L_law 1770 = .ok (.invokevirtual 190, 3) := by decide +kernel
theorem d_L_law_1773 : decode b_L_law 1773 = .ok (.lstore 6, 2) := by decide +kernel
theorem d_L_law_1775 : decode b_L_law 1775 = .ok (.aload_n 2, 1) := by decide +kernel
theorem d_L_law_1776 : decode b_L_law 1776 = .ok (.invokevirtual 113, 3) := by decide +kernel
theorem d_L_law_1779 : decode b_L_law 1779 = .ok (.iload 5, 2) := by decide +kernel
theorem d_L_law_1781 : decode b_L_law 1781 = .ok (.if_icmp .eq 5, 3) := by decide +kernel
theorem d_L_law_1784 : decode b_L_law 1784 = .ok (.iconst 0, 1) := by decide +kernel
theorem d_L_law_1785 : decode b_L_law 1785 = .ok (.ireturn, 1) := by decide +kernel
theorem d_L_law_1786 : decode b_L_law 1786 = .ok (.iload 5, 2) := by decide +kernel
theorem d_L_law_1788 : decode b_L_law 1788 = .ok (.ifCond .ne 14, 3) := by decide +kernel
theorem d_L_law_1791 : decode b_L_law 1791 = .ok (.aload_n 3, 1) := by decide +kernel
theorem d_L_law_1792 : decode b_L_law 1792 = .ok (.iconst 0, 1) := by decide +kernel
theorem d_L_law_1793 : decode b_L_law 1793 = .ok (.laload, 1) := by decide +kernel
theorem d_L_law_1794 : decode b_L_law 1794 = .ok (.lload 6, 2) := by decide +kernel
theorem d_L_law_1796 : decode b_L_law 1796 = .ok (.lcmp, 1) := by decide +kernel
theorem d_L_law_1797 : decode b_L_law 1797 = .ok (.ifCond .eq 5, 3) := by decide +kernel
theorem d_L_law_1800 : decode b_L_law 1800 = .ok (.iconst 0, 1) := by decide +kernel
theorem d_L_law_1801 : decode b_L_law 1801 = .ok (.ireturn, 1) := by decide +kernel
theorem d_L_law_1802 : decode b_L_law 1802 = .ok (.goto 139, 3) := by decide +kernel
theorem d_L_law_1805 : decode b_L_law 1805 = .ok (.aload_n 1, 1) := by decide +kernel
theorem d_L_law_1806 : decode b_L_law 1806 = .ok (.aload_n 0, 1) := by decide +kernel
theorem d_L_law_1807 : decode b_L_law 1807 = .ok (.iload 4, 2) := by decide +kernel
theorem d_L_law_1809 : decode b_L_law 1809 = .ok (.iconst 1, 1) := by decide +kernel
theorem d_L_law_1810 : decode b_L_law 1810 = .ok (.iadd, 1) := by decide +kernel
theorem d_L_law_1811 : decode b_L_law 1811 = .ok (.iaload, 1) := by decide +kernel
theorem d_L_law_1812 : decode b_L_law 1812 = .ok (.aload_n 0, 1) := by decide +kernel
theorem d_L_law_1813 : decode b_L_law 1813 = .ok (.iload 4, 2) := by decide +kernel
theorem d_L_law_1815 : decode b_L_law 1815 = .ok (.iconst 2, 1) := by decide +kernel
theorem d_L_law_1816 : decode b_L_law 1816 = .ok (.iadd, 1) := by decide +kernel
theorem d_L_law_1817 : decode b_L_law 1817 = .ok (.iaload, 1) := by decide +kernel
theorem d_L_law_1818 : decode b_L_law 1818 = .ok (.aload_n 3, 1) := by decide +kernel
theorem d_L_law_1819 : decode b_L_law 1819 = .ok (.invokestatic 191, 3) := by decide +kernel
theorem d_L_law_1822 : decode b_L_law 1822 = .ok (.istore 5, 2) := by decide +kernel
theorem d_L_law_1824 : decode b_L_law 1824 = .ok (.aload_n 2, 1) := by decide +kernel
theorem d_L_law_1825 : decode b_L_law 1825 = .ok (.aload_n 0, 1) := by decide +kernel
theorem d_L_law_1826 : decode b_L_law 1826 = .ok (.iload 4, 2) := by decide +kernel
theorem d_L_law_1828 : decode b_L_law 1828 = .ok (.iconst 1, 1) := by decide +kernel
theorem d_L_law_1829 : decode b_L_law 1829 = .ok (.iadd, 1) := by decide +kernel
theorem d_L_law_1830 : decode b_L_law 1830 = .ok (.iaload, 1) := by decide +kernel
theorem d_L_law_1831 : decode b_L_law 1831 = .ok (.aload_n 0, 1) := by decide +kernel
theorem d_L_law_1832 : decode b_L_law 1832 = .ok (.iload 4, 2) := by decide +kernel
theorem d_L_law_1834 : decode b_L_law 1834 = .ok (.iconst 2, 1) := by decide +kernel
theorem d_L_law_1835 : decode b_L_law 1835 = .ok (.iadd, 1) := by decide +kernel
theorem d_L_law_1836 : decode b_L_law 1836 = .ok (.iaload, 1) := by decide +kernel
theorem d_L_law_1837 : decode b_L_law 1837 = .ok (.invokevirtual 193, 3) := by decide +kernel
theorem d_L_law_1840 : decode b_L_law 1840 = .ok (.istore 6, 2) := by decide +kernel
theorem d_L_law_1842 : decode b_L_law 1842 = .ok (.aload_n 2, 1) := by decide +kernel
theorem d_L_law_1843 : decode b_L_law 1843 = .ok (.invokevirtual 113, 3) := by decide +kernel
theorem d_L_law_1846 : decode b_L_law 1846 = .ok (.iload 5, 2) := by decide +kernel
theorem d_L_law_1848 : decode b_L_law 1848 = .ok (.if_icmp .eq 5, 3) := by decide +kernel
theorem d_L_law_1851 : decode b_L_law 1851 = .ok (.iconst 0, 1) := by decide +kernel
theorem d_L_law_1852 : decode b_L_law 1852 = .ok (.ireturn, 1) := by decide +kernel
theorem d_L_law_1853 : decode b_L_law 1853 = .ok (.iload 5, 2) := by decide +kernel
theorem d_L_law_1855 : decode b_L_law 1855 = .ok (.ifCond .ne 15, 3) := by decide +kernel
theorem d_L_law_1858 : decode b_L_law 1858 = .ok (.aload_n 3, 1) := by decide +kernel
theorem d_L_law_1859 : decode b_L_law 1859 = .ok (.iconst 0, 1) := by decide +kernel
theorem d_L_law_1860 : decode b_L_law 1860 = .ok (.laload, 1) := by decide +kernel
theorem d_L_law_1861 : decode b_L_law 1861 = .ok (.iload 6, 2) := by decide +kernel
theorem d_L_law_1863 : decode b_L_law 1863 = .ok (.i2l, 1) := by decide +kernel
theorem d_L_law_1864 : decode b_L_law 1864 = .ok (.lcmp, 1) := by decide +kernel
theorem d_L_law_1865 : decode b_L_law 1865 = .ok (.ifCond .eq 5, 3) := by decide +kernel
theorem d_L_law_1868 : decode b_L_law 1868 = .ok (.iconst 0, 1) := by decide +kernel
theorem d_L_law_1869 : decode b_L_law 1869 = .ok (.ireturn, 1) := by decide +kernel
theorem d_L_law_1870 : decode b_L_law 1870 = .ok (.goto 71, 3) := by decide +kernel
theorem d_L_law_1873 : decode b_L_law 1873 = .ok (.aload_n 1, 1) := by decide +kernel
theorem d_L_law_1874 : decode b_L_law 1874 = .ok (.aload_n 0, 1) := by decide +kernel
theorem d_L_law_1875 : decode b_L_law 1875 = .ok (.iload 4, 2) := by decide +kernel
theorem d_L_law_1877 : decode b_L_law 1877 = .ok (.iconst 1, 1) := by decide +kernel
theorem d_L_law_1878 : decode b_L_law 1878 = .ok (.iadd, 1) := by decide +kernel
theorem d_L_law_1879 : decode b_L_law 1879 = .ok (.iaload, 1) := by decide +kernel
theorem d_L_law_1880 : decode b_L_law 1880 = .ok (.aload_n 0, 1) := by decide +kernel
theorem d_L_law_1881 : decode b_L_law 1881 = .ok (.iload 4, 2) := by decide +kernel
theorem d_L_law_1883 : decode b_L_law 1883 = .ok (.iconst 2, 1) := by decide +kernel
theorem d_L_law_1884 : decode b_L_law 1884 = .ok (.iadd, 1) := by decide +kernel
theorem d_L_law_1885 : decode b_L_law 1885 = .ok (.iaload, 1) := by decide +kernel
theorem d_L_law_1886 : decode b_L_law 1886 = .ok (.aload_n 3, 1) := by decide +kernel
theorem d_L_law_1887 : decode b_L_law 1887 = .ok (.invokestatic 194, 3) := by decide +kernel
theorem d_L_law_1890 : decode b_L_law 1890 = .ok (.istore 5, 2) := by decide +kernel
theorem d_L_law_1892 : decode b_L_law 1892 = .ok (.aload_n 2, 1) := by decide +kernel
theorem d_L_law_1893 : decode b_L_law 1893 = .ok (.aload_n 0, 1) := by decide +kernel
theorem d_L_law_1894 : decode b_L_law 1894 = .ok (.iload 4, 2) := by decide +kernel
theorem d_L_law_1896 : decode b_L_law 1896 = .ok (.iconst 1, 1) := by decide +kernel
theorem d_L_law_1897 : decode b_L_law 1897 = .ok (.iadd, 1) := by decide +kernel
theorem d_L_law_1898 : decode b_L_law 1898 = .ok (.iaload, 1) := by decide +kernel
theorem d_L_law_1899 : decode b_L_law 1899 = .ok (.aload_n 0, 1) := by decide +kernel
theorem d_L_law_1900 : decode b_L_law 1900 = .ok (.iload 4, 2) := by decide +kernel
theorem d_L_law_1902 : decode b_L_law 1902 = .ok (.iconst 2, 1) := by decide +kernel
theorem d_L_law_1903 : decode b_L_law 1903 = .ok (.iadd, 1) := by decide +kernel
theorem d_L_law_1904 : decode b_L_law 1904 = .ok (.iaload, 1) := by decide +kernel
theorem d_L_law_1905 : decode b_L_law 1905 = .ok (.invokevirtual 196, 3) := by decide +kernel
theorem d_L_law_1908 : decode b_L_law 1908 = .ok (.istore 6, 2) := by decide +kernel
theorem d_L_law_1910 : decode b_L_law 1910 = .ok (.aload_n 2, 1) := by decide +kernel
theorem d_L_law_1911 : decode b_L_law 1911 = .ok (.invokevirtual 113, 3) := by decide +kernel
theorem d_L_law_1914 : decode b_L_law 1914 = .ok (.iload 5, 2) := by decide +kernel
theorem d_L_law_1916 : decode b_L_law 1916 = .ok (.if_icmp .eq 5, 3) := by decide +kernel
theorem d_L_law_1919 : decode b_L_law 1919 = .ok (.iconst 0, 1) := by decide +kernel
theorem d_L_law_1920 : decode b_L_law 1920 = .ok (.ireturn, 1) := by decide +kernel
theorem d_L_law_1921 : decode b_L_law 1921 = .ok (.iload 5, 2) := by decide +kernel
theorem d_L_law_1923 : decode b_L_law 1923 = .ok (.ifCond .ne 15, 3) := by decide +kernel
theorem d_L_law_1926 : decode b_L_law 1926 = .ok (.aload_n 3, 1) := by decide +kernel
theorem d_L_law_1927 : decode b_L_law 1927 = .ok (.iconst 0, 1) := by decide +kernel
theorem d_L_law_1928 : decode b_L_law 1928 = .ok (.laload, 1) := by decide +kernel
theorem d_L_law_1929 : decode b_L_law 1929 = .ok (.iload 6, 2) := by decide +kernel
theorem d_L_law_1931 : decode b_L_law 1931 = .ok (.i2l, 1) := by decide +kernel
theorem d_L_law_1932 : decode b_L_law 1932 = .ok (.lcmp, 1) := by decide +kernel
theorem d_L_law_1933 : decode b_L_law 1933 = .ok (.ifCond .eq 5, 3) := by decide +kernel
theorem d_L_law_1936 : decode b_L_law 1936 = .ok (.iconst 0, 1) := by decide +kernel
theorem d_L_law_1937 : decode b_L_law 1937 = .ok (.ireturn, 1) := by decide +kernel
theorem d_L_law_1938 : decode b_L_law 1938 = .ok (.goto 3, 3) := by decide +kernel
theorem d_L_law_1941 : decode b_L_law 1941 = .ok (.iinc 4 6, 3) := by decide +kernel
theorem d_L_law_1944 : decode b_L_law 1944 = .ok (.goto (-1921), 3) := by decide +kernel
theorem d_L_law_1947 : decode b_L_law 1947 = .ok (.iconst 1, 1) := by decide +kernel
theorem d_L_law_1948 : decode b_L_law 1948 = .ok (.ireturn, 1) := by decide +kernel
end
section
/-! Exceptions: contracts of methods that return or throw, calls of them, throwing on, catching. -/
section ExcBase
variable {p : Program} {l : Launch} {e : Env} {R : Room} {s : State} {m : MethodId} {args : Array Value} {below : List Frame} {meth : Method} {c : Code}
/-- q, of the class E, is what was thrown -/
def ex_Thr (E : String) (st : State) (q : Addr) (t : State) : Prop := ∃ ce : Cell, t.heap[q]? = some ce ∧ ce.vm = .none ∧ st.vm.findClass E = some ce.cls
/-- how a method ends that returns (Qr) or throws (Qx) -/
def ex_Q (Qr : Option Value → State → State → Prop) (Qx : String → State → State → Prop) (mc ms : Nat) (free : Addr → Prop) : Array Value → State → Outcome → State → Prop := fun _ st o t =>
  ((∃ v, o = .returned v ∧ Qr v st t) ∨ ∃ (q : Addr) (E : String), o = .threw q ∧ ex_Thr E st q t ∧ Qx E st t) ∧ ∃ L, st.WarmedH t.vm ∧ st.sameButNew ({ t with vm := st.vm } : State) L mc ms ∧ ∀ z ∈ L, free z.base
def ex_Met (l : Launch) (y : MethodName) (ws : List Cond) (rm : Room) (Pc : Array Value → State → Prop) (Qr : Option Value → State → State → Prop) (Qx : String → State → State → Prop) (mc ms : Nat) (free : Addr → Prop) : Prop :=
  MetFree l y (headSpec ws rm) Pc (fun _ _ _ _ _ => True) (ex_Q Qr Qx mc ms free)
/-- what a body owes -/
def ex_MQ (below : List Frame) (Qr : Option Value → State → State → Prop) (Qx : String → State → State → Prop) (a : Array Value) (s : State) (mc ms : Nat) (free : Addr → Prop) : State → Prop := fun t =>
  ∃ o, t.status = .running ∧ Ended t below o ∧ ex_Q Qr Qx mc ms free a s o t
theorem ex_ofW {y : MethodName} {ws : List Cond} {rm : Room} {Pc : Array Value → State → Prop} {Qr : Option Value → State → State → Prop} {Qx : String → State → State → Prop} {mc ms : Nat} {free : Addr → Prop} {cc : ByteArray} {maxL : Nat} {ret : Option FieldType} {hh : List (Nat × Nat × Nat × Nat)}
    (hy : plainFor y = true) (hw : Cond.code y cc maxL ret ∈ ws ∧ hh = [] ∨ Cond.codeWith y cc maxL ret hh ∈ ws)
    (body : ∀ p e s m args below meth c s₁, BodyLoose p l y (headSpec ws rm) cc maxL ret e s m args below meth c s₁ → c.maxLocals = maxL → c.exceptionTable.toList = tableOf hh → Pc args s →
      W p l e (headSpec ws rm).room s m args below meth c s.heap [] 0 0 (ex_MQ below Qr Qx args s mc ms free) (entryFrame m args maxL)) : ex_Met l y ws rm Pc Qr Qx mc ms free := by
  have his : ∀ (args : Array Value) (s : State) (m : MethodId), (headSpec ws rm).pre.before args s = true → s.methodNamed? y = some m →
      ∃ meth c, s.vm.method? m = some meth ∧ meth.code = some c ∧ c.code = cc ∧ c.maxLocals = maxL ∧ meth.sig.returnType = ret ∧ meth.locks = false ∧ c.exceptionTable.toList = tableOf hh := by
    intro args s m h hn
    rcases hw with ⟨hw, hz⟩ | hw
    · obtain ⟨meth, c, h1, h2, h3, h4, h5, h6, h7, -⟩ := Cond.code_spec hn (atoms_spec (ws := ws) h _ hw)
      refine ⟨meth, c, h1, h2, h3, h4, h5, h6, ?_⟩
      rw [Array.isEmpty_iff.mp h7, hz]; rfl
    · obtain ⟨m', meth, c, h0, h1, h2, h3, h4, h7, h5, h6, -⟩ := Cond.codeWith_spec (atoms_spec (ws := ws) h _ hw)
      cases hn.symm.trans h0
      exact ⟨meth, c, h1, h2, h3, h4, h5, h6, by rw [← h7, table_eq]⟩
  refine MetFree.of_bodySF (code := cc) (maxLocals := maxL) (ret := ret) hy ?_ ?_
  · intro args s m h hn
    obtain ⟨meth, c, h1, h2, h3, h4, h5, h6, -⟩ := his args s m h hn
    exact ⟨meth, c, h1, h2, h3, h4, h5, h6⟩
  · intro p e s m args below meth c s₁ B hml hP _
    have hh0 : s₁.heap = s.heap := by rw [B.state]; rfl
    have ht : c.exceptionTable.toList = tableOf hh := by
      obtain ⟨meth9, c9, h1, h2, -, -, -, -, h7⟩ := his args s m B.pre B.named
      cases Option.some.inj (h1.symm.trans B.method)
      cases Option.some.inj (h2.symm.trans (Stand.of_body B).code)
      exact h7
    obtain ⟨t, a1, o, b1, b2, b3⟩ := body p e s m args below meth c s₁ B hml ht hP s₁ hh0 (Stand.of_body B)
    exact ⟨t, o, a1, b1, b2, b3⟩
/-- the call itself, from the point U -/
theorem ex_go {y : MethodName} {ws : List Cond} {rm : Room} {Pc : Array Value → State → Prop} {Qr : Option Value → State → State → Prop} {Qx : String → State → State → Prop} {mc ms maxL : Nat} {free : Addr → Prop} {a : Array Value}
    (hM : ex_Met l y ws rm Pc Qr Qx mc ms free) (hrc : rm.cells = mc) (hrs : rm.slots = ms) (hframes : rm.frames + 1 ≤ R.frames) (hlocals : 8 + (maxL + 11) + rm.locals ≤ R.locals)
    {U : State} {Ls : List Loc} {c0 s0 : Nat} (X : Stand p l e R s m args below meth c U Ls c0 s0) {g : JFrame} (hg : g.method = m) (hsize : g.locals.size = c.maxLocals) {ig : Instr} {len : Nat} (hdg : decode c.code g.pc = .ok (ig, len))
    (hW : 2 * g.monitorRoom + (g.stack.map fun v => v.category).sum ≤ 8) {mk : MethodId} (hn : U.methodNamed? y = some mk) {methY : Method} {cY : Code} (hmY : U.vm.method? mk = some methY) (hcY : methY.code = some cY) (hlY : cY.maxLocals = maxL)
    (hini : (Cond.initialized y.cls).before a U = true) (hws : (headSpec ws rm).pre.before a U = true) (hPc : Pc a (U.calling g mk a)) (hc : c0 + mc ≤ R.cells) (hs : s0 + ms ≤ R.slots) :
    ∃ (t T' : State) (L : List Loc), Stand p l e R s m args below meth c T' (Ls ++ L) (c0 + mc) (s0 + ms) ∧ (∀ z ∈ L, free z.base) ∧ T'.heap = t.heap ∧ T'.vm = t.vm ∧
      ((∃ v, Qr v (U.calling g mk a) t ∧ Steps p.tables e below (doInvoke e (U.setTop g) [] mk a).1 (T'.setTop { g with pc := g.pc + len, stack := v.toList ++ g.stack })) ∨
       ∃ (q : Addr) (E : String), ex_Thr E (U.calling g mk a) q t ∧ Qx E (U.calling g mk a) t ∧ Steps p.tables e below (doInvoke e (U.setTop g) [] mk a).1 ((T'.setTop g).pushFrame (.throwing q))) := by
  subst hg
  obtain ⟨kY, hkY, -⟩ := className_of_methodNamed hn
  have hinitY : kY.init = .initialized := Cond.initialized_spec (findClass_of_methodNamed hn) hkY hini
  have h := X.here
  have hlocals9 : 8 + (maxL + 11) + (headSpec ws rm).room.locals ≤ R.locals := hlocals
  have happ : (headSpec ws rm).appliesLoose y e.platform (U.calling g mk a) = true :=
    Spec.appliesLoose_calling (g := g) h hdg hn hkY hinitY
      (X.room_calling (g := g) (R' := (headSpec ws rm).room) hsize hmY hcY hframes (by rw [hlY]; omega) (by rw [show (headSpec ws rm).room.cells = mc from hrc]; exact hc) (by rw [show (headSpec ws rm).room.slots = ms from hrs]; exact hs)) hws
  obtain ⟨mid, hmid⟩ := h.above
  have hfr : (U.setTop g).frames = (.java g :: mid) ++ below := by rw [State.frames_setTop' g h.top, hmid]; rfl
  obtain ⟨o, t, hsteps, -, hend, hq⟩ := Steps.callFree hM p X.admits X.cas X.clock (acts := []) hfr happ hPc trivial
  have hq' : ex_Q Qr Qx mc ms free a (U.calling g mk a) o t := hq
  rw [State.frames_setTop' g h.top] at hend
  obtain ⟨hqo, L, hW₂, hsm, hL⟩ := hq'
  obtain ⟨e2, q2, q3, q4, q5, q6⟩ := id hsm
  obtain ⟨g₀, hg0⟩ := Option.isSome_iff_exists.mp h.top
  obtain ⟨r, hr⟩ := State.topJava?_eq_some.mp hg0
  have hW' : U.WarmedH t.vm := hW₂
  have e3 : t = (({ U with heap := t.heap, slotsUsed := t.slotsUsed } : State).setVm t.vm).setFrames t.frames := by
    have h1 : t = ({ t with vm := (U.calling g mk a).vm } : State).setVm t.vm := rfl
    rw [e2, State.calling_eq h.top, State.setFrames_setFrames] at h1
    exact h1
  have hsame : U.sameButNew ({ U with heap := t.heap, slotsUsed := t.slotsUsed } : State) L mc ms := by
    refine ⟨?_, q2, q3, q4, q5, q6⟩
    obtain ⟨th, hth, -⟩ := State.frames_cons hr
    show ({ U with heap := t.heap, slotsUsed := t.slotsUsed } : State) = { U.setFrames U.frames with heap := t.heap, slotsUsed := t.slotsUsed }
    rw [State.setFrames_self hth]
  have hr' : (({ U with heap := t.heap, slotsUsed := t.slotsUsed } : State).setVm t.vm).frames = .java g₀ :: r := hr
  have X' : Stand p l e R s g.method args below meth c (({ U with heap := t.heap, slotsUsed := t.slotsUsed } : State).setVm t.vm) (Ls ++ L) (c0 + mc) (s0 + ms) :=
    ⟨X.admits, X.cas, X.clock, X.frames, X.room, X.hears, X.method, X.code, (X.here.setHeapUsed t.heap t.slotsUsed).setVm hW'.alike, X.tail, State.WarmedH.trans X.warmed hW', X.limits, X.bytes, X.same.trans (hsame.setVm s.vm)⟩
  refine ⟨t, _, L, X', hL, rfl, rfl, ?_⟩
  rcases hqo with ⟨v, rfl, hv⟩ | ⟨q, E, rfl, ht, hx⟩
  · obtain ⟨c₂, i₂, len₂, hc₂, hd₂, hf₂⟩ := hend
    have hcc : c₂ = c := by
      have h1 : t.code? g.method = U.code? g.method := by
        rw [State.code?_eq, State.code?_eq, hW'.alike.method?]
      exact Option.some.inj (hc₂.symm.trans (h1.trans h.code))
    subst hcc
    have hlen : len₂ = len := by rw [hdg] at hd₂; cases hd₂; rfl
    subst hlen
    refine Or.inl ⟨v, hv, ?_⟩
    rw [State.setTop_of_frames _ hr']
    rw [hf₂, hr, List.tail_cons] at e3
    rw [← show t = _ from e3]
    exact hsteps
  · have hf₂ : t.frames = .throwing q :: .java g :: U.frames.tail := hend
    refine Or.inr ⟨q, E, ht, hx, ?_⟩
    rw [State.pushFrame, State.frames_setTop _ hr', State.setTop_of_frames _ hr', State.setFrames_setFrames]
    rw [hf₂, hr, List.tail_cons] at e3
    rw [← show t = _ from e3]
    exact hsteps
end ExcBase
section ExcCall
variable {p : Program} {l : Launch} {e : Env} {R : Room} {s : State} {m : MethodId} {args : Array Value} {below : List Frame} {meth : Method} {c : Code} {H : Heap} {locs : List Loc} {cells slots : Nat} {Q : State → Prop}
/-- the method's own frame g, and q thrown over it -/
def ex_W (p : Program) (l : Launch) (e : Env) (R : Room) (s : State) (m : MethodId) (args : Array Value) (below : List Frame) (meth : Method) (c : Code) (H : Heap) (locs : List Loc) (cells slots : Nat) (Q : State → Prop) (g : JFrame) (q : Addr) : Prop :=
  ∀ T : State, T.heap = H → Stand p l e R s m args below meth c T locs cells slots → ∃ t, Steps p.tables e below ((T.setTop g).pushFrame (.throwing q)) t ∧ Q t
def ex_Run (p : Program) (l : Launch) (e : Env) (R : Room) (s : State) (m : MethodId) (args : Array Value) (below : List Frame) (meth : Method) (c : Code) (H : Heap) (locs : List Loc) (cells slots mc ms : Nat) (g : JFrame) (rest : List Value) (Qr : Option Value → State → State → Prop) (Qx : String → State → State → Prop) (free : Addr → Prop) : Prop :=
  ∀ T : State, T.heap = H → Stand p l e R s m args below meth c T locs cells slots → ∃ (st₀ t T' : State) (L : List Loc), st₀.heap = H ∧ Stand p l e R s m args below meth c T' (locs ++ L) (cells + mc) (slots + ms) ∧ (∀ z ∈ L, free z.base) ∧ T'.heap = t.heap ∧ T'.vm = t.vm ∧
    ((∃ v, Qr v st₀ t ∧ ∀ tg, Steps p.tables e below (T'.setTop { g with pc := g.pc + 3, stack := v.toList ++ rest }) tg → Steps p.tables e below (T.setTop g) tg) ∨
     ∃ (q : Addr) (E : String), ex_Thr E s q t ∧ Qx E st₀ t ∧ ∀ tg, Steps p.tables e below ((T'.setTop { g with stack := rest }).pushFrame (.throwing q)) tg → Steps p.tables e below (T.setTop g) tg)
theorem ex_thr_back {E : String} {q : Addr} {t T : State} {vm₁ : Vm} {g : JFrame} {mk : MethodId} {a : Array Value} (hW : s.WarmedH vm₁) (h : ex_Thr E ((T.setVm vm₁).calling g mk a) q t) : ex_Thr E s q t := by
  obtain ⟨ce, h1, h2, h3⟩ := h
  refine ⟨ce, h1, h2, ?_⟩
  have h4 : vm₁.findClass E = some ce.cls := h3
  rw [hW.alike.findClass] at h4
  exact h4
/-- what a call asks of the callee's words, the callee's code with or without a table -/
abbrev ex_CB (R : Room) (s : State) (args : Array Value) (own : String) (index : Nat) (y : MethodName) (maxL : Nat) (ws : List Cond) (rm : Room) (mc ms n : Nat) : Prop :=
  rm.cells = mc ∧ rm.slots = ms ∧ rm.frames + 1 ≤ R.frames ∧ 8 + (maxL + 11) + rm.locals ≤ R.locals ∧ (∀ w ∈ ws, ∀ (a' : Array Value) (U : State), s.WarmedH U.vm → w.before a' U = true) ∧
  (∃ (mk : MethodId) (mY : Method) (cY : Code), s.methodNamed? y = some mk ∧ s.vm.method? mk = some mY ∧ mY.code = some cY ∧ cY.maxLocals = maxL ∧ mY.sig.parameters.length = n) ∧
  (Cond.initialized y.cls).before args s = true ∧ (y.cls ≠ "java/lang/invoke/MethodHandle" ∧ y.cls ≠ "java/lang/invoke/VarHandle") ∧ (Cond.methodLink own index y).before args s = true
theorem ex_runS {y : MethodName} {cc : ByteArray} {maxL nL mc ms n index : Nat} {ws : List Cond} {rm : Room} {Pc : Array Value → State → Prop} {Qr : Option Value → State → State → Prop} {Qx : String → State → State → Prop} {free : Addr → Prop} {Ts : List Cond} {own : String} {As rest : List Value} {g : JFrame}
    (S : CallFix p m c cc nL s args Ts own) (hM : ex_Met l y ws rm Pc Qr Qx mc ms free) (cw : ex_CB R s args own index y maxL ws rm mc ms n) (hst : (Cond.static y).before args s = true) (hp : PreS s H Pc As)
    (hg : g.method = m) (hn : As.length = n) (hsize : g.locals.size = nL) (hstack : g.stack = As.reverse ++ rest) (hW : 2 * g.monitorRoom + (rest.map fun v => v.category).sum ≤ 8) (hdg : decode cc g.pc = .ok (.invokestatic index, 3)) (hf : cells + mc ≤ R.cells ∧ slots + ms ≤ R.slots) :
    ex_Run p l e R s m args below meth c H locs cells slots mc ms g rest Qr Qx free := by
  obtain ⟨hrc, hrs, hfr, hlo, hws, ⟨mk, mY, cY, hnY, hmY, hcY, hlY, hpY⟩, hini, hy, hl⟩ := cw
  obtain ⟨hx, hb, hml, ho, -⟩ := S
  obtain ⟨kP, hkP, -⟩ := className_of_methodNamed hnY
  have hinitP : kP.init = .initialized := Cond.initialized_spec (findClass_of_methodNamed hnY) hkP hini
  intro T hT X
  obtain ⟨vm₁, X₁, hstep₁⟩ := X.invokestatic hx ho hl hnY hmY (Cond.static_spec hnY hmY hst) hkP hinitP hy (g := g) hg (argsL := As) (rest := rest) (hn.trans hpY.symm) hstack (by rw [hb]; exact hdg)
  have hW₁ := X₁.warmed
  obtain ⟨t, T', L, X', hL, e1, e2, hq⟩ := ex_go hM hrc hrs hfr hlo X₁ (g := { g with stack := rest }) hg (hsize.trans hml.symm) (by rw [hb]; exact hdg) hW (X₁.named hnY) (mk := mk) (methY := mY) (cY := cY) (by rw [hW₁.alike.method?]; exact hmY) hcY hlY
    (word_at hW₁ (Or.inl (by first | rfl | simp [Cond.onTables, Cond.keeps, Cond.steady])) hini) (atoms_intro fun w hw => hws w hw _ _ hW₁) (hp.1 _ _ _ _ (hp.2 (T.setVm vm₁) hT hW₁)) hf.1 hf.2
  refine ⟨(T.setVm vm₁).calling { g with stack := rest } mk As.toArray, t, T', L, hT, X', hL, e1, e2, ?_⟩
  rcases hq with ⟨v, hv, hs⟩ | ⟨q, E, ht, hqx, hs⟩
  · exact Or.inl ⟨v, hv, fun tg h => hstep₁ _ fun acts => by rw [doInvoke_state]; exact hs.trans h⟩
  · exact Or.inr ⟨q, E, ex_thr_back hW₁ ht, hqx, fun tg h => hstep₁ _ fun acts => by rw [doInvoke_state]; exact hs.trans h⟩
theorem ex_runV {y : MethodName} {cc : ByteArray} {maxL nL mc ms n index : Nat} {ws : List Cond} {rm : Room} {Pc : Array Value → State → Prop} {Qr : Option Value → State → State → Prop} {Qx : String → State → State → Prop} {free : Addr → Prop} {Ts : List Cond} {own C : String} {b : Addr} {As rest : List Value} {g : JFrame}
    (S : CallFix p m c cc nL s args Ts own) (hM : ex_Met l y ws rm Pc Qr Qx mc ms free) (cw : ex_CB R s args own index y maxL ws rm mc ms n) (hin : (Cond.instanceMethod y).before args s = true) (hse : (Cond.selects C y y).before args s = true) (hp : PreV s H C b Pc As)
    (hg : g.method = m) (hn : As.length = n) (hsize : g.locals.size = nL) (hstack : g.stack = As.reverse ++ .ref b :: rest) (hW : 2 * g.monitorRoom + (rest.map fun v => v.category).sum ≤ 8) (hdg : decode cc g.pc = .ok (.invokevirtual index, 3)) (hf : cells + mc ≤ R.cells ∧ slots + ms ≤ R.slots) :
    ex_Run p l e R s m args below meth c H locs cells slots mc ms g rest Qr Qx free := by
  obtain ⟨hrc, hrs, hfr, hlo, hws, ⟨mk, mY, cY, hnY, hmY, hcY, hlY, hpY⟩, hini, hy, hl⟩ := cw
  obtain ⟨hx, hb, hml, ho, -⟩ := S
  obtain ⟨hbl, ⟨cellB, hcB, hoB, hclB⟩, hPc⟩ := hp
  obtain ⟨mk', methM, hnamed, hmethM, hstM, habM⟩ := Cond.instanceMethod_spec hin
  cases hnY.symm.trans hnamed
  cases hmY.symm.trans hmethM
  obtain ⟨c2, r2, m2, q1, q2, q3, q4, kP, hkP, hkPi⟩ := Cond.selects_spec hse
  cases hclB.symm.trans q1
  cases (State.methodFound?_of_named hnY hy).symm.trans q2
  cases hnY.symm.trans q3
  intro T hT X
  have hselP : selectMethod e.platform s.vm cellB.cls mk = .method mk := by rw [Launch.admits_selectMethod X.admits]; exact q4
  obtain ⟨vm₁, X₁, hstep₁⟩ := X.invokevirtual hx ho hl hnY hmY hstM hkP hkPi hy (a := b) (cell := cellB) (by rw [hT]; exact hcB)
    (fun z h => by rw [h] at hoB; cases hoB) hselP hmY habM hkP hkPi (g := g) hg (argsL := As) (rest := rest) (hn.trans hpY.symm) hstack (by rw [hb]; exact hdg)
  have hW₁ := X₁.warmed
  obtain ⟨t, T', L, X', hL, e1, e2, hq⟩ := ex_go hM hrc hrs hfr hlo X₁ (g := { g with stack := rest }) hg (hsize.trans hml.symm) (by rw [hb]; exact hdg) hW (X₁.named hnY) (mk := mk) (methY := mY) (cY := cY) (by rw [hW₁.alike.method?]; exact hmY) hcY hlY
    (word_at hW₁ (Or.inl (by first | rfl | simp [Cond.onTables, Cond.keeps, Cond.steady])) hini) (atoms_intro fun w hw => hws w hw _ _ hW₁) (hbl _ _ _ _ (hPc (T.setVm vm₁) hT hW₁)) hf.1 hf.2
  refine ⟨(T.setVm vm₁).calling { g with stack := rest } mk (Value.ref b :: As).toArray, t, T', L, hT, X', hL, e1, e2, ?_⟩
  rcases hq with ⟨v, hv, hs⟩ | ⟨q, E, ht, hqx, hs⟩
  · exact Or.inl ⟨v, hv, fun tg h => hstep₁ _ fun acts => by rw [doInvoke_state]; exact hs.trans h⟩
  · exact Or.inr ⟨q, E, ex_thr_back hW₁ ht, hqx, fun tg h => hstep₁ _ fun acts => by rw [doInvoke_state]; exact hs.trans h⟩
theorem ex_runI {y : MethodName} {cc bytes : ByteArray} {maxL nL mc ms n index : Nat} {ws : List Cond} {rm : Room} {Pc : Array Value → State → Prop} {Qr : Option Value → State → State → Prop} {Qx : String → State → State → Prop} {free : Addr → Prop} {Ts : List Cond} {own : String} {b : Addr} {As rest : List Value} {g : JFrame}
    (S : CallFix p m c cc nL s args Ts own) (hM : ex_Met l y ws rm Pc Qr Qx mc ms free) (cw : ex_CB R s args own index y maxL ws rm mc ms n) (hin : (Cond.instanceMethod y).before args s = true) (hy1 : y.name = "<init>") (hcode : (Cond.code y bytes maxL none).before args s = true) (hp : PreS s H Pc (.ref b :: As))
    (hg : g.method = m) (hn : As.length = n) (hsize : g.locals.size = nL) (hstack : g.stack = As.reverse ++ .ref b :: rest) (hW : 2 * g.monitorRoom + (rest.map fun v => v.category).sum ≤ 8) (hdg : decode cc g.pc = .ok (.invokespecial index, 3)) (hf : cells + mc ≤ R.cells ∧ slots + ms ≤ R.slots) :
    ex_Run p l e R s m args below meth c H locs cells slots mc ms g rest Qr Qx free := by
  obtain ⟨hrc, hrs, hfr, hlo, hws, ⟨mk, mY, cY, hnY, hmY, hcY, hlY, hpY⟩, hini, hy, hl⟩ := cw
  obtain ⟨hx, hb, hml, ho, -⟩ := S
  subst hg
  intro T hT X
  have hpl : e.platform.magicAccessors = ({} : Platform).magicAccessors := by rw [X.admits.platform]
  have hlen : ∀ sig, parseMethodDescriptor y.desc = some sig → As.length = sig.parameters.length := fun sig h => by
    obtain ⟨m1, c1, h1, -, -, -, -, -, -, h8⟩ := Cond.code_spec hnY hcode
    cases hmY.symm.trans h1
    rw [h8] at h
    cases h
    exact hn.trans hpY.symm
  obtain ⟨mk', methM, cM, kP, vm₁, hnamed, hmethM, hcodeM, -, hlocalsM, -, hkP, -, hW₁, hstep₁⟩ := Steps.initColdArgs (e := e) X.here hx X.warmed hpl ho hy1 hy hl hin hcode (f := g) rfl hlen hstack (by rw [hb]; exact hdg)
  cases hnY.symm.trans hnamed
  have X₁ := X.noted hW₁
  obtain ⟨t, T', L, X', hL, e1, e2, hq⟩ := ex_go hM hrc hrs hfr hlo X₁ (g := { g with stack := rest }) rfl (hsize.trans hml.symm) (by rw [hb]; exact hdg) hW (X₁.named hnY) (mk := mk) (methY := mY) (cY := cY) (by show vm₁.method? mk = some mY; rw [hW₁.alike.method?]; exact hmY) hcY hlY
    (word_at hW₁ (Or.inl (by first | rfl | simp [Cond.onTables, Cond.keeps, Cond.steady])) hini) (atoms_intro fun w hw => hws w hw _ _ hW₁) (hp.1 _ _ _ _ (hp.2 (T.setVm vm₁) hT hW₁)) hf.1 hf.2
  refine ⟨(T.setVm vm₁).calling { g with stack := rest } mk (Value.ref b :: As).toArray, t, T', L, hT, X', hL, e1, e2, ?_⟩
  rcases hq with ⟨v, hv, hs⟩ | ⟨q, E, ht, hqx, hs⟩
  · exact Or.inl ⟨v, hv, fun tg h => hstep₁ _ fun acts => by rw [doInvoke_state]; exact hs.trans h⟩
  · exact Or.inr ⟨q, E, ex_thr_back hW₁ ht, hqx, fun tg h => hstep₁ _ fun acts => by rw [doInvoke_state]; exact hs.trans h⟩
/-- behind a call: it came back, or it threw -/
theorem ex_call {mc ms : Nat} {g : JFrame} {rest : List Value} {Qr : Option Value → State → State → Prop} {Qx : String → State → State → Prop} {free : Addr → Prop} (hr : ex_Run p l e R s m args below meth c H locs cells slots mc ms g rest Qr Qx free)
    (kk : ∀ (v : Option Value) (st₀ t : State) (H1 : Heap) (L : List Loc), st₀.heap = H → t.heap = H1 → s.WarmedH t.vm → s.heap.size ≤ H1.size → (∀ z ∈ L, free z.base) → Qr v st₀ t → W p l e R s m args below meth c H1 (locs ++ L) (cells + mc) (slots + ms) Q { g with pc := g.pc + 3, stack := v.toList ++ rest })
    (kx : ∀ (q : Addr) (E : String) (st₀ t : State) (H1 : Heap) (L : List Loc), st₀.heap = H → t.heap = H1 → s.WarmedH t.vm → s.heap.size ≤ H1.size → (∀ z ∈ L, free z.base) → ex_Thr E s q t → Qx E st₀ t → ex_W p l e R s m args below meth c H1 (locs ++ L) (cells + mc) (slots + ms) Q { g with stack := rest } q) :
    W p l e R s m args below meth c H locs cells slots Q g := by
  intro T hT X
  obtain ⟨st₀, t, T', L, h0, X', hL, e1, e2, hq⟩ := hr T hT X
  have hal : s.WarmedH t.vm := by rw [← e2]; exact X'.warmed
  have hsz : s.heap.size ≤ t.heap.size := by rw [← e1]; exact X'.same.2.1
  rcases hq with ⟨v, hv, hs⟩ | ⟨q, E, ht, hqx, hs⟩
  · obtain ⟨t2, a1, b1⟩ := kk v st₀ t t.heap L h0 rfl hal hsz hL hv T' e1 X'
    exact ⟨t2, hs t2 a1, b1⟩
  · obtain ⟨t2, a1, b1⟩ := kx q E st₀ t t.heap L h0 rfl hal hsz hL ht hqx T' e1 X'
    exact ⟨t2, hs t2 a1, b1⟩
/-- thrown on to the caller: no row of the table covers the place -/
theorem ex_out {pc : Nat} {ls : Array Slot} {rest : List Value} {q : Addr} {E : String} {Qr : Option Value → State → State → Prop} {Qx : String → State → State → Prop} {free : Addr → Prop} {mc ms : Nat} {T0 : State}
    (hout : ∀ x ∈ c.exceptionTable.toList, covers x pc = false) (hlocks : meth.locks = false) (hT0 : T0.heap = H) (hq : ex_Thr E s q T0) (hx : ∀ t : State, t.heap = H → s.WarmedH t.vm → Qx E s t) (hf : ∀ z ∈ locs, free z.base) (hc : cells ≤ mc) (hs : slots ≤ ms) :
    ex_W p l e R s m args below meth c H locs cells slots (ex_MQ below Qr Qx args s mc ms free) (F0 m pc ls rest) q := by
  intro T hT X
  obtain ⟨st1, hrun, hend, hW, hsm⟩ := X.leaveThrown q (g := F0 m pc ls rest) rfl rfl rfl hout hlocks
  refine ⟨_, st1, .threw q, hrun, hend, Or.inr ⟨q, E, rfl, ?_, hx _ hT hW⟩, locs, hW, hsm.mono hc hs, hf⟩
  obtain ⟨ce, h1, h2, h3⟩ := hq
  refine ⟨ce, ?_, h2, h3⟩
  show T.heap[q]? = some ce
  rw [hT, ← hT0]; exact h1
/-- a plain end -/
theorem ex_ret {g : JFrame} {Qc : Array Value → State → Outcome → State → Prop} {Qr : Option Value → State → State → Prop} {Qx : String → State → State → Prop} {free : Addr → Prop} {mc ms : Nat} (hq : ∀ v t, Qc args s (.returned v) t → Qr v s t)
    (k : W p l e R s m args below meth c H locs cells slots (MQ below Qc args s mc ms free) g) : W p l e R s m args below meth c H locs cells slots (ex_MQ below Qr Qx args s mc ms free) g := by
  intro T hT X
  obtain ⟨t, a1, o, b1, b2, b3, L, ⟨⟨v, rfl⟩, hW, hsm⟩, hL⟩ := k T hT X
  exact ⟨t, a1, .returned v, b1, b2, Or.inl ⟨v, rfl, hq v t b3⟩, L, hW, hsm, hL⟩
end ExcCall
section ExcRow
variable {Qh : Handler → Pre} {Ec : CtlPost} {e : Env} {d : Bool} {acts : List Action} {S s : State} {f : JFrame} {a : Addr}
/-- one row of the table that covers the place and names a class -/
theorem ex_row {x : ExceptionTableEntry} {t : List ExceptionTableEntry} {k : ClassId} {cell : Cell} (hx : covers x f.pc = true) (h0 : x.catchType ≠ 0)
    (hl : S.vm.ClassLinks e.platform f.method.cls x.catchType k) (hcell : S.heap[a]? = some cell) (hobj : ∀ z, cell.vm ≠ .statics z)
    (hk : ∃ kk, S.vm.classes[cell.cls]? = some kk) (hc : ∃ kk, S.vm.classes[k]? = some kk) :
    wp (findHandler.go f a (x :: t)) Qh Ec e d acts S ↔
      if S.vm.assignable cell.cls k = true then Qh (.found x.handlerPc) d acts (S.setVm (S.vm.noted f.method.cls x.catchType (.cls k))) else wp (findHandler.go f a t) Qh Ec e d acts (S.setVm (S.vm.noted f.method.cls x.catchType (.cls k))) := by
  simp only [covers] at hx
  obtain ⟨ha, ht⟩ := (resolveClass_links e.toSetting hl).op (op := VmOp.resolveClass f.method.cls x.catchType) rfl
  have hal : S.vm.Alike (S.vm.noted f.method.cls x.catchType (.cls k)) := (Vm.Alike.refl S.vm).noted _ _ _
  obtain ⟨k1, hk1⟩ := hk
  obtain ⟨k2, hk2⟩ := hc
  obtain ⟨k1', hk1', -⟩ := hal.2.2 _ _ hk1
  obtain ⟨k2', hk2', -⟩ := hal.2.2 _ _ hk2
  have hfit : (S.vm.noted f.method.cls x.catchType (.cls k)).assignable cell.cls k = S.vm.assignable cell.cls k := hal.assignable ..
  cases hz : S.vm.assignable cell.cls k <;> rw [hz] at hfit <;>
    simp [findHandler.go, hx, h0, ha, ht, hcell, hobj, hk1', hk2', hfit, VmOp.dirties, VmOp.acts]
/-- a row that doesn't take what was thrown, of the class th -/
def ex_Skip (pl : Platform) (s : State) (d : ClassId) (pc : Nat) (th : ClassId) (x : ExceptionTableEntry) : Prop :=
  covers x pc = false ∨ (x.catchType ≠ 0 ∧ ∃ k, s.vm.ClassLinks pl d x.catchType k ∧ s.vm.assignable th k = false)
theorem ex_search {cell : Cell} (hobj : ∀ z, cell.vm ≠ .statics z) (hk0 : ∃ k, s.vm.classes[cell.cls]? = some k) (x : ExceptionTableEntry) (rest : List ExceptionTableEntry) (hx : covers x f.pc = true) (h0 : x.catchType ≠ 0)
    {kc : ClassId} (hlx : s.vm.ClassLinks e.platform f.method.cls x.catchType kc) (hfx : s.vm.assignable cell.cls kc = true) :
    ∀ (pre : List ExceptionTableEntry) (S : State), s.WarmedH S.vm → S.heap[a]? = some cell → (∀ z ∈ pre, ex_Skip e.platform s f.method.cls f.pc cell.cls z) →
      ∃ vm', s.WarmedH vm' ∧ ∀ (Qh : Handler → Pre) (Ec : CtlPost) (d : Bool) (acts : List Action), wp (findHandler.go f a (pre ++ x :: rest)) Qh Ec e d acts S ↔ Qh (.found x.handlerPc) d acts (S.setVm vm') := by
  obtain ⟨k0, hk0⟩ := hk0
  intro pre
  induction pre with
  | nil =>
    intro S hW hcell _
    obtain ⟨k0', hk0', -⟩ := hW.alike.2.2 _ _ hk0
    obtain ⟨dk, _, _, kt, hd, _, _, _, _, hkt, _, hopen⟩ := hlx.here
    obtain ⟨kt', hkt', -⟩ := hW.alike.2.2 _ _ hkt
    refine ⟨_, hW.noted hd hopen (State.rightAt_cls hlx), fun Qh Ec d acts => ?_⟩
    rw [List.nil_append, ex_row hx h0 (hW.classLinks hlx) hcell hobj ⟨k0', hk0'⟩ ⟨kt', hkt'⟩, if_pos (by rw [hW.alike.assignable]; exact hfx)]
  | cons y ys ih =>
    intro S hW hcell hpass
    obtain ⟨k0', hk0', -⟩ := hW.alike.2.2 _ _ hk0
    have hrest : ∀ z ∈ ys, ex_Skip e.platform s f.method.cls f.pc cell.cls z := fun z hz => hpass z (List.mem_cons_of_mem _ hz)
    by_cases hcov : covers y f.pc = true
    · rcases hpass y List.mem_cons_self with h | ⟨hy0, k, hl, hno⟩
      · rw [h] at hcov; cases hcov
      · obtain ⟨dk, _, _, kt, hd, _, _, _, _, hkt, _, hopen⟩ := hl.here
        obtain ⟨kt', hkt', -⟩ := hW.alike.2.2 _ _ hkt
        obtain ⟨vm', hW', hq⟩ := ih (S.setVm (S.vm.noted f.method.cls y.catchType (.cls k))) (hW.noted hd hopen (State.rightAt_cls hl)) hcell hrest
        refine ⟨vm', hW', fun Qh Ec d acts => ?_⟩
        rw [List.cons_append, ex_row hcov hy0 (hW.classLinks hl) hcell hobj ⟨k0', hk0'⟩ ⟨kt', hkt'⟩, if_neg (by rw [hW.alike.assignable, hno]; exact Bool.false_ne_true)]
        exact hq Qh Ec d acts
    · obtain ⟨vm', hW', hq⟩ := ih S hW hcell hrest
      refine ⟨vm', hW', fun Qh Ec d acts => ?_⟩
      rw [List.cons_append, W.findHandler_go_skip (by simpa using hcov)]
      exact hq Qh Ec d acts
end ExcRow
section ExcCatch
variable {p : Program} {l : Launch} {e : Env} {R : Room} {s : State} {m : MethodId} {args : Array Value} {below : List Frame} {meth : Method} {c : Code} {H : Heap} {locs : List Loc} {cells slots : Nat} {Q : State → Prop}
theorem ex_into {T tg : State} {g : JFrame} {a : Addr} {pc : Nat} {vm' : Vm} (h : At T g.method c below)
    (hf : ∀ (Qh : Handler → Pre) (Ec : CtlPost) (d : Bool) (acts : List Action), wp (findHandler g a) Qh Ec e d acts ((T.setTop g).pushFrame (.throwing a)) ↔ Qh (.found pc) d acts (((T.setTop g).pushFrame (.throwing a)).setVm vm'))
    (hrest : Steps p.tables e below ((T.setVm vm').setTop { g with pc := pc, stack := [.ref a] }) tg) : Steps p.tables e below ((T.setTop g).pushFrame (.throwing a)) tg := by
  obtain ⟨hgo, hw⟩ := h.throwing a
  refine Steps.head hgo hw ?_
  have hst : (stepThrowing e ((T.setTop g).pushFrame (.throwing a)) a (.java g :: T.frames.tail)).Is ((((T.setTop g).pushFrame (.throwing a)).setVm vm').setFrames (.java { g with pc := pc, stack := [.ref a] } :: T.frames.tail)) [] := by
    simp only [stepThrowing, searchFrame, vmDo]
    generalize hr : Sem.go _ e false [] ((T.setTop g).pushFrame (.throwing a)) = res
    obtain ⟨as, rfl, ha⟩ := Sem.eq_ok_of hr (a := Handler.found pc) (s' := ((T.setTop g).pushFrame (.throwing a)).setVm vm') (acts' := []) (by simp [hf _ _ _ _])
    exact ⟨rfl, ha⟩
  rw [stepThread_throwing (frames_entered h.top _), hst.1]
  obtain ⟨g₀, hg⟩ := Option.isSome_iff_exists.mp h.top
  obtain ⟨r, hr⟩ := State.topJava?_eq_some.mp hg
  have hr' : (T.setVm vm').frames = .java g₀ :: r := hr
  rw [State.setTop_of_frames _ hr'] at hrest
  rw [hr, List.tail_cons, State.pushFrame, State.setTop_of_frames _ hr]
  have e9 : (((T.setFrames (.java g :: r)).setFrames (.throwing a :: (T.setFrames (.java g :: r)).frames)).setVm vm').setFrames (.java { g with pc := pc, stack := [.ref a] } :: r) = (T.setVm vm').setFrames (.java { g with pc := pc, stack := [.ref a] } :: r) := by
    have h1 : ∀ (u : State) (F G : List Frame), ((u.setFrames F).setVm vm').setFrames G = (u.setVm vm').setFrames G := fun u F G => by
      have h2 : (u.setFrames F).setVm vm' = (u.setVm vm').setFrames F := rfl
      rw [h2, State.setFrames_setFrames]
    rw [h1, h1]
  rw [e9]
  exact hrest
/-- caught by the row x of this method's own table; those ahead of it don't take it -/
theorem ex_catch {own name : String} {E : String} {q : Addr} {pc : Nat} {ls : Array Slot} {rest : List Value} {T0 : State} (hown : s.vm.findClass own = some m.cls) (pre : List ExceptionTableEntry) (x : ExceptionTableEntry) (suf : List ExceptionTableEntry) (hsplit : c.exceptionTable.toList = pre ++ x :: suf)
    (hpass : ∀ z ∈ pre, covers z pc = false ∨ (z.catchType ≠ 0 ∧ ∃ nm : String, (Cond.classLink own z.catchType nm).before args s = true ∧ va_Nc E nm s)) (hx : covers x pc = true) (h0 : x.catchType ≠ 0)
    (hlink : (Cond.classLink own x.catchType name).before args s = true) (hcast : (Cond.castable E name).before args s = true) (hT0 : T0.heap = H) (hq : ex_Thr E s q T0)
    (kk : W p l e R s m args below meth c H locs cells slots Q (F0 m x.handlerPc ls [.ref q])) : ex_W p l e R s m args below meth c H locs cells slots Q (F0 m pc ls rest) q := by
  intro T hT X
  obtain ⟨ce, hce, hv, hcl⟩ := hq
  rw [hT0, ← hT] at hce
  have hpl : e.platform.magicAccessors = ({} : Platform).magicAccessors := by rw [X.admits.platform]
  obtain ⟨c3, c4, hc3, hc4, hasg⟩ := Cond.castable_spec hcast
  cases Option.some.inj (hc3.symm.trans hcl)
  obtain ⟨c5, hc5, hcl5⟩ := Cond.classLink_spec hown hlink e.platform hpl
  cases Option.some.inj (hc4.symm.trans hc5)
  have hobj : ce.vm.isStatics = false := by rw [hv]; rfl
  obtain ⟨vm', hW', hf⟩ := ex_search (s := s) (e := e) (f := F0 m pc ls rest) (a := q) (cell := ce) (VmData.ne_statics_of hobj) (by obtain ⟨k9, h9, -⟩ := Vm.findClass_spec hcl; exact ⟨k9, h9⟩) x suf hx h0 hcl5 hasg
    pre ((T.setTop (F0 m pc ls rest)).pushFrame (.throwing q)) X.warmed hce (fun z hz => by
      rcases hpass z hz with h | ⟨hz0, nm, hl1, hn1⟩
      · exact Or.inl h
      · obtain ⟨c6, hc6, hcl6⟩ := Cond.classLink_spec hown hl1 e.platform hpl
        obtain ⟨a8, b8, h1, h2, h3⟩ := hn1
        cases Option.some.inj (h1.symm.trans hcl)
        cases Option.some.inj (h2.symm.trans hc6)
        exact Or.inr ⟨hz0, _, hcl6, h3⟩)
  obtain ⟨t, a1, b1⟩ := kk (T.setVm vm') hT (X.noted hW')
  refine ⟨t, ex_into (g := F0 m pc ls rest) X.here (fun Qh Ec d acts => ?_) a1, b1⟩
  have hm9 : ((T.setTop (F0 m pc ls rest)).pushFrame (.throwing q)).vm.method? m = some meth := X.method'
  rw [W.findHandler_eq (f := F0 m pc ls rest) hm9 X.code, hsplit]
  exact hf Qh Ec d acts
end ExcCatch
section ExcThrow
variable {p : Program} {l : Launch} {e : Env} {R : Room} {s : State} {m : MethodId} {args : Array Value} {below : List Frame} {meth : Method} {c : Code} {H : Heap} {locs : List Loc} {cells slots : Nat}
/-- the same invocation, seen from the point where it stands -/
theorem ex_here {T : State} (X : Stand p l e R s m args below meth c T locs cells slots) {R' : Room} (hf : R'.frames ≤ R.frames) (hl : R'.locals ≤ R.locals) (hc : cells + R'.cells ≤ R.cells) (hs : slots + R'.slots ≤ R.slots) :
    Stand p l e R' ((T.setVm s.vm).setFrames (.invoking m args :: below)) m args below meth c T [] 0 0 := by
  have htop : (T.setVm s.vm).topJava?.isSome := X.here.top
  have hF : ((T.setVm s.vm).setFrames (.invoking m args :: below)).frames = .invoking m args :: below := State.frames_setFrames _ (State.cur_lt_of_top htop)
  obtain ⟨g₀, hg0⟩ := Option.isSome_iff_exists.mp htop
  obtain ⟨r, hr⟩ := State.topJava?_eq_some.mp hg0
  have hlim : e.platform.stackLimits (T.setVm s.vm).me = e.platform.stackLimits s.me := X.limits
  have hbyt : (T.setVm s.vm).me.stackBytes = s.me.stackBytes := X.bytes
  have hdrop : T.heap.toList.drop T.heap.size = [] := List.drop_eq_nil_of_le (Nat.le_of_eq Array.length_toList)
  have hroom : ((T.setVm s.vm).setFrames (.invoking m args :: below)).hasRoom e.platform R' = true := by
    have hU : ((T.setVm s.vm).setFrames (.invoking m args :: below)).localsInUse = s.localsInUse := by
      rw [State.localsInUse_invoking hF (meth := meth) (c := c) X.method X.code, State.localsInUse_invoking X.frames X.method X.code]
    have h := X.room
    have q1 := X.heapSize
    have q2 := X.used
    simp only [State.hasRoom, Bool.and_eq_true, decide_eq_true_eq] at h ⊢
    obtain ⟨⟨⟨⟨h1, h2, h3, h4, h5, h6⟩, h7⟩, h8⟩, h9⟩ := h
    rw [X.frames, List.length_cons] at h2 h3
    simp only [hF, hU, List.length_cons, State.stackLimits_setFrames, State.stackBytes_setFrames, hlim, hbyt]
    have z1 : T.heap.size + R'.cells ≤ e.platform.maxCells := by omega
    have z2 : T.slotsUsed + R'.slots ≤ e.platform.maxSlots := by omega
    exact ⟨⟨⟨⟨by omega, by omega, by omega, by omega, by omega, h6⟩, z1⟩, z2⟩, X.book⟩
  refine ⟨X.admits, X.cas, X.clock, hF, hroom, X.hears, X.method, X.code, X.here, X.tail, X.warmed, by rw [State.stackLimits_setFrames]; rfl, by rw [State.stackBytes_setFrames]; rfl, ?_, Nat.le_refl _, Nat.le_refl _, ?_, ?_, fun a c9 h9 => ⟨c9, h9, rfl, rfl, fun _ _ => rfl⟩⟩
  · obtain ⟨t, ht, -⟩ := State.frames_cons hr
    show T.setVm s.vm = { ((T.setVm s.vm).setFrames (.invoking m args :: below)).setFrames (T.setVm s.vm).frames with heap := T.heap, slotsUsed := T.slotsUsed }
    rw [State.setFrames_setFrames, State.setFrames_self ht]
    rfl
  · show T.slotsUsed = T.slotsUsed + ((T.heap.toList.drop T.heap.size).map (·.slots.size)).sum
    rw [hdrop]; rfl
  · show ((T.heap.toList.drop T.heap.size).map (·.slots.size)).sum ≤ 0
    rw [hdrop]; exact Nat.le_refl _
/-- 'throw new E("text")': new, dup, ldc, invokespecial, athrow; nothing old is written -/
theorem ex_throw {cc : ByteArray} {pc : Nat} (hexec : p.tables.exec = Jvm.exec) (hb : c.code = cc) (hl : l.stackTraces = false) {own cls text : String} {names : List String} {ik is ic mc ms sa : Nat} {ls : Array Slot} {rest : List Value}
    {Qr : Option Value → State → State → Prop} {Qx : String → State → State → Prop} {free : Addr → Prop}
    (hown : s.vm.findClass own = some m.cls) (hcls : Bundle.fit cls = true) (hnames : ∀ n ∈ names, Bundle.fit n = true) (hstr : vk_R own is text sa s)
    (hw : ∀ U : State, U.vm = s.vm → U.heap = H → ∀ w ∈ Cond.classLink own ik cls :: Cond.initialized cls :: Bundle.ownAtoms own ic cls names, w.before args U = true)
    (hsize : ls.size = c.maxLocals)
    (d0 : decode cc pc = .ok (.new ik, 3)) (d3 : decode cc (pc + 3) = .ok (.dup, 1)) {kl : Nat} (d4 : kl = 2 ∧ decode cc (pc + 4) = .ok (.ldc is, 2) ∨ kl = 3 ∧ decode cc (pc + 4) = .ok (.ldc_w is, 3)) (d6 : decode cc (pc + 4 + kl) = .ok (.invokespecial ic, 3)) (d9 : decode cc (pc + 4 + kl + 3) = .ok (.athrow, 1))
    (hout : ∀ x ∈ c.exceptionTable.toList, covers x (pc + 4 + kl + 3) = false) (hlocks : meth.locks = false)
    (hRframes : names.length + 3 < R.frames) (hRlocals : (rest.map fun v => v.category).sum + (13 * (names.length + 1) + 43) ≤ R.locals) (hRcells : cells + 1 ≤ R.cells) (hRslots : slots + 6 ≤ R.slots)
    (hx : ∀ t : State, s.WarmedH t.vm → H.size ≤ t.heap.size → (∀ q : Nat, q < H.size → t.heap[q]? = H[q]?) → Qx cls s t)
    (hf : ∀ z ∈ locs, free z.base) (hc : cells + 1 ≤ mc) (hs : slots + 6 ≤ ms) :
    W p l e R s m args below meth c H locs cells slots (ex_MQ below Qr Qx args s mc ms free) (F0 m pc ls rest) := by
  intro T hT X
  have htr : e.platform.stackTraces = false := (show e.platform.stackTraces = l.stackTraces by rw [X.admits.platform]).trans hl
  have Y := ex_here X (R' := { frames := R.frames, locals := R.locals, cells := 1, slots := 6 }) (Nat.le_refl _) (Nat.le_refl _) hRcells hRslots
  obtain ⟨s', hA⟩ : ∃ z, z = (T.setVm s.vm).setFrames (.invoking m args :: below) := ⟨_, rfl⟩
  rw [← hA] at Y
  have hvm : s'.vm = s.vm := by rw [hA]; rfl
  have hhp : s'.heap = H := by rw [hA]; exact hT
  have hW0 : s.WarmedH s'.vm := by rw [hvm]; exact State.WarmedH.refl s
  have hws := hw s' hvm hhp
  have h : ∀ w ∈ Bundle.ownAtoms own ic cls names, w.before args s' = true := fun w h9 => hws w (List.mem_cons_of_mem _ (List.mem_cons_of_mem _ h9))
  have hown' : s'.vm.findClass own = some m.cls := by rw [hvm]; exact hown
  obtain ⟨vm₁, cX, kX, hfX, hkX, -, -, X₁, st1⟩ := Y.newCold hexec (own := own) (C := cls) (index := ik) (n := 6) hown' (hws _ List.mem_cons_self) (h _ (by simp [Bundle.ownAtoms])) (hws _ (List.mem_cons_of_mem _ List.mem_cons_self))
    (g := F0 m pc ls rest) rfl (by rw [hb]; exact d0) (Nat.le_refl _) (Nat.le_refl _)
  generalize hT1 : (T.setVm vm₁).pushCell { cls := cX, slots := kX.instanceTypes.map defaultValue, vm := .none } = T1 at X₁ st1
  have hcat : (Value.ref T.heap.size).category = 1 := rfl
  have hcellA : T1.heap[T.heap.size]? = some (freshCell cX kX) := by rw [← hT1]; exact State.heap_pushCell_size _ _
  have d3' : decode c.code (pc + 3) = .ok (.dup, 1) := by rw [hb]; exact d3
  have hstr' : vk_R own is text sa s' := vk_R.same hvm hstr
  obtain ⟨U, hsteps, hrun, hend, hW, hsame, ce, hce, hO⟩ := X₁.ctorThrowS hexec htr (own := own) (cls := cls) (names := names) (ic := ic) hown' hcls hnames h (fun x hx => nomatch hx) hfX hkX hcellA (by rw [hhp, hT]; exact Nat.le_refl _) (msg := .ref sa) rfl
    (g := { method := m, pc := pc + 4 + kl, locals := ls, stack := .ref sa :: .ref T.heap.size :: .ref T.heap.size :: rest, locked := none }) rfl hsize rfl rfl (rest := rest) rfl
    (by rw [hb]; exact d6) (by rw [hb]; exact d9) hout hRframes (by simp only [List.map_cons, List.sum_cons, hcat]; omega) hlocks
  have hsm2 : s.sameButNew ({ U with vm := s.vm } : State) locs mc ms := by
    subst hA
    obtain ⟨e1, e2⟩ := hsame
    rw [State.setFrames_setFrames] at e1
    have h2 : (T.setVm s.vm).sameButNew ({ U with vm := s.vm } : State) [] (0 + 1) (0 + 6) := ⟨e1, e2⟩
    have h3 := X.same.trans h2
    rw [List.append_nil] at h3
    exact h3.mono hc hs
  have f1 : H.size ≤ U.heap.size := by rw [← hhp]; exact hsame.2.1
  have f2 : ∀ q : Nat, q < H.size → U.heap[q]? = H[q]? := by
    intro q hq
    rw [← hhp] at hq ⊢
    obtain ⟨c9, e1, e2, -, e4⟩ := hsame.2.2.2.2.2 q _ (Array.getElem?_eq_getElem hq)
    have hs9 : c9.slots = (s'.heap[q]).slots := Array.ext_getElem? fun i => e4 i (fun hm => nomatch hm)
    rw [hs9] at e2
    have e5 : U.heap[q]? = some c9 := e1
    rw [e5, Array.getElem?_eq_getElem hq]
    exact congrArg some e2
  have hWs : s.WarmedH U.vm := State.WarmedH.trans hW0 hW
  have hcl : s.vm.findClass cls = some ce.cls := by rw [← hvm]; exact hO.cls
  refine ⟨U, ?_, .threw T.heap.size, hrun, hend, Or.inr ⟨T.heap.size, cls, rfl, ⟨ce, hce, hO.vm, hcl⟩, hx U hWs f1 f2⟩, locs, hWs, hsm2, hf⟩
  refine st1 _ ?_
  show Steps p.tables e below (T1.setTop { method := m, pc := pc + 3, locals := ls, stack := .ref T.heap.size :: rest, locked := none }) _
  jvm_step X₁.here [X₁.here.top, hexec, d3', Value.category]
  rcases d4 with ⟨rfl, d4⟩ | ⟨rfl, d4⟩
  · exact X₁.ldcString hexec (own := own) (text := text) (index := is) (a := sa) hown' hstr'.1 hstr'.2
      (g := { method := m, pc := pc + 4, locals := ls, stack := .ref T.heap.size :: .ref T.heap.size :: rest, locked := none }) rfl (by rw [hb]; exact d4) _ hsteps
  · exact X₁.ldcStringW hexec (own := own) (text := text) (index := is) (a := sa) hown' hstr'.1 hstr'.2
      (g := { method := m, pc := pc + 4, locals := ls, stack := .ref T.heap.size :: .ref T.heap.size :: rest, locked := none }) rfl (by rw [hb]; exact d4) _ hsteps
end ExcThrow
end
section
/-! Worlds as lists: any order, one cell in front, a part of them. -/
section WorldLists
theorem wl_P {D : va_G} {cl : List vw_C} {ws : va_W} {H : Heap} : va_P D cl ws H ↔ ∀ q ∈ ws, va_at D cl q H := by
  constructor
  · intro h q hq
    obtain ⟨k, hk⟩ := List.getElem?_of_mem hq
    exact h k q hk
  · intro h k q hk
    exact h q (List.mem_of_getElem? hk)
theorem wl_D {A : Nat → Prop} {ws : va_W} : va_D A ws ↔ (ws.map Prod.fst).Nodup ∧ ∀ q ∈ ws, A q.1 := by
  constructor
  · intro h
    refine ⟨?_, fun q hq => by obtain ⟨k, hk⟩ := List.getElem?_of_mem hq; exact h.2 k q hk⟩
    refine List.pairwise_iff_getElem.mpr fun i j hi hj hij e => ?_
    rw [List.length_map] at hi hj
    rw [List.getElem_map, List.getElem_map] at e
    have := h.1 i j _ _ (List.getElem?_eq_getElem hi) (List.getElem?_eq_getElem hj) e
    omega
  · intro h
    refine ⟨?_, fun k q hk => h.2 q (List.mem_of_getElem? hk)⟩
    intro i j a b hi hj e
    have hn := List.pairwise_iff_getElem.mp h.1
    obtain ⟨hi1, hi2⟩ := List.getElem?_eq_some_iff.mp hi
    obtain ⟨hj1, hj2⟩ := List.getElem?_eq_some_iff.mp hj
    have li : i < (ws.map Prod.fst).length := by rw [List.length_map]; exact hi1
    have lj : j < (ws.map Prod.fst).length := by rw [List.length_map]; exact hj1
    have ei : (ws.map Prod.fst)[i] = a.1 := by rw [List.getElem_map, hi2]
    have ej : (ws.map Prod.fst)[j] = b.1 := by rw [List.getElem_map, hj2]
    rcases Nat.lt_trichotomy i j with q | q | q
    · exact absurd (by rw [ei, ej, e]) (hn i j li lj q)
    · exact q
    · exact absurd (by rw [ei, ej, e]) (hn j i lj li q)
theorem wl_Pp {D : va_G} {cl : List vw_C} {ws ws' : va_W} {H : Heap} (h : va_P D cl ws H) (hp : ws.Perm ws') : va_P D cl ws' H := wl_P.mpr fun q hq => wl_P.mp h q (hp.mem_iff.mpr hq)
theorem wl_Dp {A : Nat → Prop} {ws ws' : va_W} (h : va_D A ws) (hp : ws.Perm ws') : va_D A ws' := by
  obtain ⟨h1, h2⟩ := wl_D.mp h
  exact wl_D.mpr ⟨(hp.map Prod.fst).nodup_iff.mp h1, fun q hq => h2 q (hp.mem_iff.mpr hq)⟩
theorem wl_Pm {D : va_G} {cl : List vw_C} {ws ws' : va_W} {H : Heap} (h : va_P D cl ws H) (hs : ∀ q ∈ ws', q ∈ ws) : va_P D cl ws' H := wl_P.mpr fun q hq => wl_P.mp h q (hs q hq)
theorem wl_P1 {D : va_G} {cl : List vw_C} {ws : va_W} {H : Heap} (h : va_P D cl ws H) {q : Nat × va_E} (hq : q ∈ ws) : va_P D cl [q] H := wl_Pm h (fun z hz => by rw [List.mem_singleton.mp hz]; exact hq)
theorem wl_Pf {D : va_G} {cl : List vw_C} {ws : va_W} {x : Nat × va_E} {H : Heap} (h : va_P D cl (ws ++ [x]) H) : va_P D cl (x :: ws) H := wl_Pp h (List.perm_append_comm (l₁ := ws) (l₂ := [x]))
theorem wl_Df {A : Nat → Prop} {ws : va_W} {x : Nat × va_E} (h : va_D A (ws ++ [x])) : va_D A (x :: ws) := wl_Dp h (List.perm_append_comm (l₁ := ws) (l₂ := [x]))
theorem wl_Pa {D : va_G} {cl : List vw_C} {w1 w2 : va_W} {H : Heap} : va_P D cl (w1 ++ w2) H ↔ va_P D cl w1 H ∧ va_P D cl w2 H := by
  constructor
  · intro h
    exact ⟨wl_Pm h fun q hq => List.mem_append_left _ hq, wl_Pm h fun q hq => List.mem_append_right _ hq⟩
  · rintro ⟨h1, h2⟩
    refine wl_P.mpr fun q hq => ?_
    rcases List.mem_append.mp hq with h | h
    · exact wl_P.mp h1 q h
    · exact wl_P.mp h2 q h
/-- the heap has grown, nothing old has changed -/
theorem wl_Pk {D : va_G} {cl : List vw_C} {ws : va_W} {H H1 : Heap} (h : va_P D cl ws H) (hq : ∀ q : Nat, q < H.size → H1[q]? = H[q]?) : va_P D cl ws H1 :=
  wl_P.mpr fun q hm => (wl_P.mp h q hm).kept (hq q.1 (wl_P.mp h q hm).lt)
end WorldLists
section TopOf
variable {p : Program} {l : Launch} {e : Env} {R : Room} {s : State} {m : MethodId} {args : Array Value} {below : List Frame} {meth : Method} {c : Code} {H : Heap} {locs : List Loc} {cells slots : Nat} {Q : State → Prop} {pc : Nat} {ls : Array Slot} {rest : List Value}
/-- the value on top, said otherwise -/
theorem tp_i {x y : Int32} (h : x = y) (k : W p l e R s m args below meth c H locs cells slots Q (F0 m pc ls (.int y :: rest))) : W p l e R s m args below meth c H locs cells slots Q (F0 m pc ls (.int x :: rest)) := h ▸ k
theorem tp_l {x y : Int64} (h : x = y) (k : W p l e R s m args below meth c H locs cells slots Q (F0 m pc ls (.long y :: rest))) : W p l e R s m args below meth c H locs cells slots Q (F0 m pc ls (.long x :: rest)) := h ▸ k
theorem tp_v {x y : Value} (h : x = y) (k : W p l e R s m args below meth c H locs cells slots Q (F0 m pc ls (y :: rest))) : W p l e R s m args below meth c H locs cells slots Q (F0 m pc ls (x :: rest)) := h ▸ k
end TopOf
end
section
/-! The start s0, what holds there, and later states with a world. -/
abbrev xIA : String := "java/lang/IllegalArgumentException"
abbrev xIS : String := "java/lang/IllegalStateException"
abbrev xIO : String := "java/lang/IndexOutOfBoundsException"
abbrev xRE : List String := ["java/lang/RuntimeException", "java/lang/Exception"]
abbrev wU : Cond := .isRef (.static Bundle.tN "UNASSIGNED_STACK" Bundle.steD)
abbrev wN : Cond := .isRef (.static Bundle.tN "SUPPRESSED_SENTINEL" Bundle.listD)
abbrev tysOf (k : Nat → ClassId) : List (ClassId × FieldType) := [(k 0, .int), (k 1, .long), (k 2, .object "LathePieces$Piece"), (k 3, .object "LathePieces$Nose"), (k 4, .object "LathePieces$Reach"), (k 5, .object "LathePieces$Ring")]
/-- what holds at the law's entry -/
def Cx (l : Launch) (s0 : State) (D : va_G) (k : Nat → ClassId) : Prop :=
  l.stackTraces = false ∧ (∃ a0 : Array Value, (∀ w ∈ lw_tbl, w.before a0 s0 = true) ∧ wU.before a0 s0 = true ∧ wN.before a0 s0 = true) ∧ va_K D classes (tysOf k) s0 ∧
  (va_Nc xIA xIS s0 ∧ va_Nc xIA xIO s0 ∧ va_Nc xIS xIA s0 ∧ va_Nc xIS xIO s0 ∧ va_Nc xIO xIA s0 ∧ va_Nc xIO xIS s0)
/-- U is later than s0: the tables warmer, what was there unchanged -/
def La (s0 U : State) : Prop := s0.WarmedH U.vm ∧ s0.heap.size ≤ U.heap.size ∧ ∀ q : Nat, q < s0.heap.size → U.heap[q]? = s0.heap[q]?
/-- .. and its world is ws -/
def Wd (s0 : State) (D : va_G) (ws : va_W) (U : State) : Prop := La s0 U ∧ va_P D classes ws U.heap ∧ va_D (fun q : Nat => s0.heap.size ≤ q) ws
section CtxLaws
variable {l : Launch} {s0 : State} {D : va_G} {k : Nat → ClassId} {ws ws1 : va_W} {U s t : State}
theorem cx_gw (hC : Cx l s0 D k) (h : La s0 U) (a : Array Value) : ∀ w ∈ GW, w.before a U = true := by
  obtain ⟨-, ⟨a0, h1, -⟩, -⟩ := hC
  exact fun w hw => word_at h.1 (good_of_word (gw_good w hw)) (h1 w (gw_tbl hw))
theorem cx_K (hC : Cx l s0 D k) (h : La s0 U) : va_K D classes (tysOf k) U := va_K.moved h.1.alike hC.2.2.1
theorem la_calling {g : JFrame} {mk : MethodId} {a : Array Value} (h : La s0 U) : La s0 (U.calling g mk a) := h
theorem wd_calling {g : JFrame} {mk : MethodId} {a : Array Value} (h : Wd s0 D ws U) : Wd s0 D ws (U.calling g mk a) := h
theorem la_next {A : Nat → Prop} {H : Heap} {locs : List Loc} (h : La s0 s) (hA : ∀ q : Nat, A q → s0.heap.size ≤ q) (hS : va_S A s.heap H locs) (U : State) (hU : U.heap = H) (hW : s.WarmedH U.vm) : La s0 U := by
  refine ⟨State.WarmedH.trans h.1 hW, by rw [hU]; exact Nat.le_trans h.2.1 hS.1, fun q hq => ?_⟩
  rw [hU, hS.2.1 q (Nat.lt_of_lt_of_le hq h.2.1) (fun z => absurd (hA q z) (Nat.not_le.mpr hq))]
  exact h.2.2 q hq
theorem wd_next {H : Heap} {locs : List Loc} (h : La s0 s) (hS : va_S (fun q : Nat => s0.heap.size ≤ q) s.heap H locs) (hP : va_P D classes ws H) (hD : va_D (fun q : Nat => s0.heap.size ≤ q) ws) (U : State) (hU : U.heap = H) (hW : s.WarmedH U.vm) : Wd s0 D ws U :=
  ⟨la_next h (fun _ z => z) hS U hU hW, by rw [hU]; exact hP, hD⟩
/-- behind a call -/
theorem wd_S {locs L : List Loc} {H H1 : Heap} (h : La s0 s) (hS : va_S (fun q : Nat => s0.heap.size ≤ q) s.heap H locs) (ht : La s0 t) (e1 : t.heap = H1) (hz : s.heap.size ≤ H1.size) (hL : ∀ z ∈ L, s0.heap.size ≤ z.base) : va_S (fun q : Nat => s0.heap.size ≤ q) s.heap H1 (locs ++ L) := by
  refine ⟨hz, fun q h1 h2 => ?_, fun z hm => ?_⟩
  · have hq : q < s0.heap.size := Nat.not_le.mp h2
    rw [← e1, ht.2.2 q hq]
    exact (h.2.2 q hq).symm
  · rcases List.mem_append.mp hm with q | q
    · exact hS.2.2 z q
    · exact hL z q
/-- the heap has only grown -/
theorem la_grow (h : La s0 s) (hW : s.WarmedH t.vm) (hz : s.heap.size ≤ t.heap.size) (hq : ∀ q : Nat, q < s.heap.size → t.heap[q]? = s.heap[q]?) : La s0 t :=
  ⟨State.WarmedH.trans h.1 hW, Nat.le_trans h.2.1 hz, fun q hl => (hq q (Nat.lt_of_lt_of_le hl h.2.1)).trans (h.2.2 q hl)⟩
theorem cx_lays (hC : Cx l s0 D k) (h : La s0 U) {n d : String} (hm : Cond.laysStatic Bundle.tN n d ∈ lw_tbl) (a : Array Value) : (Cond.laysStatic Bundle.tN n d).before a U = true := by
  obtain ⟨-, ⟨a0, h1, -⟩, -⟩ := hC
  obtain ⟨c, kk, i, f, ad, cell, hc, hi, hst, ha, hcell, hs, hcls, hlt, hty⟩ := Cond.laysStatic_spec (h1 _ hm)
  obtain ⟨k', hi', hek⟩ := State.fieldFound?_setVm h.1.alike hi
  have hl : ad < s0.heap.size := (Array.getElem?_eq_some_iff.mp hcell).1
  exact Cond.laysStatic_of (s := U) (by rw [h.1.alike.findClass]; exact hc) hi' hst (by rw [hek]; exact ha) (by rw [h.2.2 ad hl]; exact hcell) hs hcls hlt (by rw [hek]; exact hty)
theorem cx_isRef (h : La s0 U) {n d : String} {a0 : Array Value} (h1 : (Cond.laysStatic Bundle.tN n d).before a0 s0 = true) (h2 : (Cond.initialized Bundle.tN).before a0 s0 = true) (h3 : (Cond.isRef (.static Bundle.tN n d)).before a0 s0 = true) (a : Array Value) : (Cond.isRef (.static Bundle.tN n d)).before a U = true := by
  have hz : va_Zq Bundle.tN n d (fun q : Nat => s0.heap.size ≤ q) U U.heap := ((va_Zqof (A := fun q : Nat => s0.heap.size ≤ q) h1 h2 h3 (fun q hq => Nat.not_le.mpr hq)).moved h.1.alike).kept (fun q hq _ => h.2.2 q hq)
  have key : ∀ v : Value, v.isRef = true → va_Z Bundle.tN n d v (fun q : Nat => s0.heap.size ≤ q) U U.heap → (Cond.isRef (.static Bundle.tN n d)).before a U = true := by
    intro v hv hzv
    obtain ⟨cf, kf, fi, f, ad, cell, g1, g2, g3, g4, g5, g6, g7, -⟩ := hzv
    have he : (Term.static Bundle.tN n d).eval a U none [] U = some v := by
      simp [Term.eval, State.fieldNamed?, g1, g2, g4, g5, g6, g7]
    simp only [Cond.before, Cond.holds, Cond.value, he]
    cases v <;> simp_all [Value.isRef]
  rcases hz with hz | ⟨q, hz⟩
  · exact key _ rfl hz
  · exact key _ rfl hz
/-- the words of a throw that aren't good ones -/
def xSp (cls : String) : List Cond := [wU, wN, .laysStatic Bundle.tN "UNASSIGNED_STACK" Bundle.steD, .laysStatic Bundle.tN "SUPPRESSED_SENTINEL" Bundle.listD, .castable cls cls, .declares ⟨"java/lang/RuntimeException", "<init>", "(Ljava/lang/String;)V"⟩, .declares ⟨"java/lang/Exception", "<init>", "(Ljava/lang/String;)V"⟩, .declares ⟨"java/lang/Throwable", "<init>", "(Ljava/lang/String;)V"⟩]
theorem xA_IA : ∀ w ∈ Bundle.ownAtoms "LathePieces" 234 xIA xRE, (goodWord w = true ∧ w ∈ lw_tbl) ∨ w ∈ xSp xIA := by decide +kernel
theorem xA_IS : ∀ w ∈ Bundle.ownAtoms "LathePieces" 84 xIS xRE, (goodWord w = true ∧ w ∈ lw_tbl) ∨ w ∈ xSp xIS := by decide +kernel
theorem xA_IO : ∀ w ∈ Bundle.ownAtoms "LathePieces" 109 xIO xRE, (goodWord w = true ∧ w ∈ lw_tbl) ∨ w ∈ xSp xIO := by decide +kernel
end CtxLaws
end
section
/-! Rows over the context: throws, ends, calls. -/
section CtxThrow
variable {l : Launch} {s0 : State} {D : va_G} {k : Nat → ClassId} {ws : va_W} {U : State}
theorem cx_own (hC : Cx l s0 D k) (h : La s0 U) {cls : String} {ic : Nat} (hA : ∀ w ∈ Bundle.ownAtoms "LathePieces" ic cls xRE, (goodWord w = true ∧ w ∈ lw_tbl) ∨ w ∈ xSp cls) (hcast : Cond.castable cls cls ∈ lw_tbl) (a : Array Value) :
    ∀ w ∈ Bundle.ownAtoms "LathePieces" ic cls xRE, w.before a U = true := by
  intro w hw
  obtain ⟨-, ⟨a0, h1, h2, h3⟩, -⟩ := id hC
  rcases hA w hw with ⟨g, hm⟩ | hs
  · exact word_at h.1 (good_of_word g) (h1 w hm)
  · have hd : ∀ x : MethodName, Cond.declares x ∈ lw_tbl → (Cond.declares x).before a U = true := fun x hx => va_Nw.use rfl (va_Nw.warmD h.1 (va_Nw.of rfl (h1 _ hx)))
    simp only [xSp, List.mem_cons, List.not_mem_nil, or_false] at hs
    rcases hs with rfl | rfl | rfl | rfl | rfl | rfl | rfl | rfl
    · exact cx_isRef h (h1 _ g_140) (h1 _ (gw_tbl g_4)) h2 a
    · exact cx_isRef h (h1 _ g_142) (h1 _ (gw_tbl g_4)) h3 a
    · exact cx_lays hC h g_140 a
    · exact cx_lays hC h g_142 a
    · exact va_Nw.use rfl (va_Nw.warmC h.1 (va_Nw.of rfl (h1 _ hcast)))
    · exact hd _ g_117
    · exact hd _ g_119
    · exact hd _ g_121
theorem cx_str (hC : Cx l s0 D k) (h : La s0 U) {is : Nat} {text : String} (hm : Cond.stringRef "LathePieces" is text ∈ lw_tbl) : ∃ sa : Nat, vk_R "LathePieces" is text sa U := by
  obtain ⟨-, ⟨a0, h1, -⟩, hK, -⟩ := id hC
  have hfc : s0.vm.findClass "LathePieces" = some (D.1 5) := (hK.1 5 _ rfl).2.1
  obtain ⟨kk, cf, i, a', -, -, -, -, -, hev⟩ := Cond.stringRef_spec hfc (h1 _ hm)
  exact ⟨a', vk_R.warm h.1 ⟨h1 _ hm, hev⟩⟩
end CtxThrow
section CtxRows
variable {p : Program} {l : Launch} {e : Env} {R : Room} {s : State} {m : MethodId} {args : Array Value} {below : List Frame} {meth : Method} {c : Code} {H : Heap} {locs : List Loc} {cells slots : Nat} {Q : State → Prop}
variable {s0 : State} {D : va_G} {k : Nat → ClassId} {ws : va_W} {cc : ByteArray} {pc : Nat} {ls : Array Slot} {rest : List Value} {Qr : Option Value → State → State → Prop} {Qx : String → State → State → Prop} {free : Addr → Prop} {mc ms : Nat}
/-- 'throw new E("text")' in a method of LathePieces that has no handlers -/
theorem tk_throw (hC : Cx l s0 D k) (h0 : La s0 s) (hx : p.tables.exec = Jvm.exec) (hb : c.code = cc) (hown : s.vm.findClass "LathePieces" = some m.cls) {cls text : String} {ic ik is kl : Nat} (hA : ∀ w ∈ Bundle.ownAtoms "LathePieces" ic cls xRE, (goodWord w = true ∧ w ∈ lw_tbl) ∨ w ∈ xSp cls) (hfit : Bundle.fit cls = true)
    (hcast : Cond.castable cls cls ∈ lw_tbl) (hcl : Cond.classLink "LathePieces" ik cls ∈ GW) (hini : Cond.initialized cls ∈ GW) (hstr : Cond.stringRef "LathePieces" is text ∈ lw_tbl) (hS : va_S (fun q : Nat => s0.heap.size ≤ q) s.heap H locs) (hsize : ls.size = c.maxLocals)
    (d0 : decode cc pc = .ok (.new ik, 3)) (d3 : decode cc (pc + 3) = .ok (.dup, 1)) (d4 : kl = 2 ∧ decode cc (pc + 4) = .ok (.ldc is, 2) ∨ kl = 3 ∧ decode cc (pc + 4) = .ok (.ldc_w is, 3)) (d6 : decode cc (pc + 4 + kl) = .ok (.invokespecial ic, 3)) (d9 : decode cc (pc + 4 + kl + 3) = .ok (.athrow, 1))
    (htab : c.exceptionTable.toList = tableOf []) (hlocks : meth.locks = false) (hRframes : 5 < R.frames) (hRlocals : (rest.map fun v => v.category).sum + 82 ≤ R.locals) (hRcells : cells + 1 ≤ R.cells) (hRslots : slots + 6 ≤ R.slots)
    (hq : ∀ t : State, La s0 t → H.size ≤ t.heap.size → (∀ q : Nat, q < H.size → t.heap[q]? = H[q]?) → Qx cls s t) (hc : cells + 1 ≤ mc) (hs : slots + 6 ≤ ms) :
    W p l e R s m args below meth c H locs cells slots (ex_MQ below Qr Qx args s mc ms (fun q => s0.heap.size ≤ q)) (F0 m pc ls rest) := by
  obtain ⟨sa, hsa⟩ := cx_str hC h0 hstr
  have hAs : ∀ U : State, U.vm = s.vm → U.heap = H → La s0 U := fun U hv hh => by
    have hW : s.WarmedH U.vm := by rw [hv]; exact State.WarmedH.refl s
    exact la_next h0 (fun _ z => z) hS U hh hW
  refine ex_throw (names := xRE) hx hb hC.1 hown hfit (by decide +kernel) hsa (fun U hv hh w hw => ?_) hsize d0 d3 d4 d6 d9 (fun x hm => by rw [htab] at hm; cases hm) hlocks hRframes hRlocals hRcells hRslots (fun t hW hz ho => hq t ?_ hz ho) hS.2.2 hc hs
  · have hLa := hAs U hv hh
    rcases List.mem_cons.mp hw with rfl | hw
    · exact cx_gw hC hLa _ _ hcl
    · rcases List.mem_cons.mp hw with rfl | hw
      · exact cx_gw hC hLa _ _ hini
      · exact cx_own hC hLa hA hcast _ w hw
  · refine ⟨State.WarmedH.trans h0.1 hW, Nat.le_trans (Nat.le_trans h0.2.1 hS.1) hz, fun q hl => ?_⟩
    have hql : q < s.heap.size := Nat.lt_of_lt_of_le hl h0.2.1
    rw [ho q (Nat.lt_of_lt_of_le hql hS.1), hS.2.1 q hql (Nat.not_le.mpr hl)]
    exact h0.2.2 q hl
/-! ends -/
theorem re_i {v : Int32} (hx : p.tables.exec = Jvm.exec) (hb : c.code = cc) (hr : meth.sig.returnType = some .int) (hlocks : meth.locks = false) (hq : ∀ t : State, t.heap = H → s.WarmedH t.vm → Qr (some (.int v)) s t) (hf : ∀ z ∈ locs, free z.base) (hc : cells ≤ mc) (hs : slots ≤ ms) (hdg : decode cc pc = .ok (.ireturn, 1)) :
    W p l e R s m args below meth c H locs cells slots (ex_MQ below Qr Qx args s mc ms free) (F0 m pc ls [.int v]) :=
  W.widen hc hs (ex_ret (Qc := fun _ st o t => ∃ v', o = .returned v' ∧ Qr v' st t) (fun v t h => by obtain ⟨v', e, h⟩ := h; cases e; exact h) (W.iret hx hb hr (fun t ht hW => ⟨_, rfl, hq t ht hW⟩) hf hdg))
theorem re_z {v : Int32} (hx : p.tables.exec = Jvm.exec) (hb : c.code = cc) (hr : meth.sig.returnType = some .boolean) (hlocks : meth.locks = false) (hn : v = 0 ∨ v = 1) (hq : ∀ t : State, t.heap = H → s.WarmedH t.vm → Qr (some (.int v)) s t) (hf : ∀ z ∈ locs, free z.base) (hc : cells ≤ mc) (hs : slots ≤ ms) (hdg : decode cc pc = .ok (.ireturn, 1)) :
    W p l e R s m args below meth c H locs cells slots (ex_MQ below Qr Qx args s mc ms free) (F0 m pc ls [.int v]) :=
  W.widen hc hs (ex_ret (Qc := fun _ st o t => ∃ v', o = .returned v' ∧ Qr v' st t) (fun v t h => by obtain ⟨v', e, h⟩ := h; cases e; exact h) (W.zret hx hb hr (by rcases hn with rfl | rfl <;> rfl) (fun t ht hW => ⟨_, rfl, hq t ht hW⟩) hf hdg))
theorem re_l {v : Int64} (hx : p.tables.exec = Jvm.exec) (hb : c.code = cc) (hr : meth.sig.returnType = some .long) (hlocks : meth.locks = false) (hq : ∀ t : State, t.heap = H → s.WarmedH t.vm → Qr (some (.long v)) s t) (hf : ∀ z ∈ locs, free z.base) (hc : cells ≤ mc) (hs : slots ≤ ms) (hdg : decode cc pc = .ok (.lreturn, 1)) :
    W p l e R s m args below meth c H locs cells slots (ex_MQ below Qr Qx args s mc ms free) (F0 m pc ls [.long v]) :=
  W.widen hc hs (ex_ret (Qc := fun _ st o t => ∃ v', o = .returned v' ∧ Qr v' st t) (fun v t h => by obtain ⟨v', e, h⟩ := h; cases e; exact h) (W.lret hx hb hr (fun t ht hW => ⟨_, rfl, hq t ht hW⟩) hf hdg))
theorem re_a {v : Nat} {rt : FieldType} (hx : p.tables.exec = Jvm.exec) (hb : c.code = cc) (hr : meth.sig.returnType = some rt) (hrt : (∃ n, rt = .object n) ∨ ∃ t, rt = .array t) (hlocks : meth.locks = false) (hq : ∀ t : State, t.heap = H → s.WarmedH t.vm → Qr (some (.ref v)) s t) (hf : ∀ z ∈ locs, free z.base) (hc : cells ≤ mc) (hs : slots ≤ ms) (hdg : decode cc pc = .ok (.areturn, 1)) :
    W p l e R s m args below meth c H locs cells slots (ex_MQ below Qr Qx args s mc ms free) (F0 m pc ls [.ref v]) :=
  W.widen hc hs (ex_ret (Qc := fun _ st o t => ∃ v', o = .returned v' ∧ Qr v' st t) (fun v t h => by obtain ⟨v', e, h⟩ := h; cases e; exact h) (W.aret hx hb hr hrt (Or.inr ⟨_, rfl⟩) (fun t ht hW => ⟨_, rfl, hq t ht hW⟩) hf hdg))
theorem re_v (hx : p.tables.exec = Jvm.exec) (hb : c.code = cc) (hr : meth.sig.returnType = none) (hlocks : meth.locks = false) (hq : ∀ t : State, t.heap = H → s.WarmedH t.vm → Qr none s t) (hf : ∀ z ∈ locs, free z.base) (hc : cells ≤ mc) (hs : slots ≤ ms) (hdg : decode cc pc = .ok (.return_, 1)) :
    W p l e R s m args below meth c H locs cells slots (ex_MQ below Qr Qx args s mc ms free) (F0 m pc ls []) :=
  W.widen hc hs (ex_ret (Qc := fun _ st o t => ∃ v', o = .returned v' ∧ Qr v' st t) (fun v t h => by obtain ⟨v', e, h⟩ := h; cases e; exact h) (W.vret hx hb hr (fun t ht hW => ⟨_, rfl, hq t ht hW⟩) hf hdg))
end CtxRows
section CtxCalls
variable {p : Program} {l : Launch} {e : Env} {R : Room} {s : State} {m : MethodId} {args : Array Value} {below : List Frame} {meth : Method} {c : Code} {H : Heap} {locs : List Loc} {cells slots : Nat} {Q : State → Prop}
variable {cc bytes : ByteArray} {pc nL maxL mc ms n index : Nat} {ls : Array Slot} {As rest st0 : List Value} {own : String} {y : MethodName} {ret : Option FieldType} {rm : Room} {Ts : List Cond} {hh : List (Nat × Nat × Nat × Nat)}
theorem cb_code (hG : ∀ w ∈ GW, w.before args s = true) (hcode : Cond.code y bytes maxL ret ∈ GW) (hini : Cond.initialized y.cls ∈ GW) (hl : Cond.methodLink own index y ∈ GW) (hrc : rm.cells = mc) (hrs : rm.slots = ms)
    (hd : y.cls ≠ "java/lang/invoke/MethodHandle" ∧ y.cls ≠ "java/lang/invoke/VarHandle" ∧ (parseMethodDescriptor y.desc).map (fun d => d.parameters.length) = some n) (hR : rm.frames + 1 ≤ R.frames ∧ 8 + (maxL + 11) + rm.locals ≤ R.locals) : ex_CB R s args own index y maxL GW rm mc ms n := by
  obtain ⟨mk, hnamed⟩ := Cond.code_named (hG _ hcode)
  obtain ⟨mY, cY, h1, h2, -, h4, -, -, -, h8⟩ := Cond.code_spec hnamed (hG _ hcode)
  refine ⟨hrc, hrs, hR.1, hR.2, gw_pay hG, ⟨mk, mY, cY, hnamed, h1, h2, h4, ?_⟩, hG _ hini, ⟨hd.1, hd.2.1⟩, hG _ hl⟩
  have h9 := hd.2.2
  rw [h8] at h9
  exact Option.some.inj h9
theorem cb_with (hG : ∀ w ∈ GW, w.before args s = true) (hcode : Cond.codeWith y bytes maxL ret hh ∈ GW) (hini : Cond.initialized y.cls ∈ GW) (hl : Cond.methodLink own index y ∈ GW) (hrc : rm.cells = mc) (hrs : rm.slots = ms)
    (hd : y.cls ≠ "java/lang/invoke/MethodHandle" ∧ y.cls ≠ "java/lang/invoke/VarHandle" ∧ (parseMethodDescriptor y.desc).map (fun d => d.parameters.length) = some n) (hR : rm.frames + 1 ≤ R.frames ∧ 8 + (maxL + 11) + rm.locals ≤ R.locals) : ex_CB R s args own index y maxL GW rm mc ms n := by
  obtain ⟨mk, mY, cY, hnamed, h1, h2, -, h4, -, -, -, h8⟩ := Cond.codeWith_spec (hG _ hcode)
  refine ⟨hrc, hrs, hR.1, hR.2, gw_pay hG, ⟨mk, mY, cY, hnamed, h1, h2, h4, ?_⟩, hG _ hini, ⟨hd.1, hd.2.1⟩, hG _ hl⟩
  have h9 := hd.2.2
  rw [h8] at h9
  exact Option.some.inj h9
/-- a contract of a method that touches no heap -/
abbrev PuM (l : Launch) (y : MethodName) (rm : Room) (As : List Value) (post : Option Value → Prop) : Prop := ex_Met l y GW rm (fun a _ => a = As.toArray) (fun v st t => post v ∧ t.heap = st.heap) (fun _ _ _ => False) 0 0 (fun _ => False)
theorem pu_call {post : Option Value → Prop} {g : JFrame} (hr : ex_Run p l e R s m args below meth c H locs cells slots 0 0 g rest (fun v st t => post v ∧ t.heap = st.heap) (fun _ _ _ => False) (fun _ => False))
    (kk : ∀ v, post v → W p l e R s m args below meth c H locs cells slots Q { g with pc := g.pc + 3, stack := v.toList ++ rest }) : W p l e R s m args below meth c H locs cells slots Q g := by
  refine ex_call hr (fun v st₀ t H1 L e0 e1 hal hz hL hq => ?_) (fun q E st₀ t H1 L e0 e1 hal hz hL ht hqx => hqx.elim)
  have hL0 : L = [] := List.eq_nil_iff_forall_not_mem.mpr fun z hz => hL z hz
  subst hL0
  rw [List.append_nil, ← e1, hq.2, e0]
  exact kk v hq.1
/-- a static call of such a method -/
theorem pu_S {post : Option Value → Prop} (S : CallFix p m c cc nL s args Ts own) (hM : PuM l y rm As post) (cw : ex_CB R s args own index y maxL GW rm 0 0 n) (hst : (Cond.static y).before args s = true)
    (hn : As.length = n) (hsize : ls.size = nL) (hstack : st0 = As.reverse ++ rest) (hW : (rest.map fun v => v.category).sum ≤ 8) (hdg : decode cc pc = .ok (.invokestatic index, 3)) (hf : cells ≤ R.cells ∧ slots ≤ R.slots)
    (kk : ∀ v, post v → W p l e R s m args below meth c H locs cells slots Q (F0 m (pc + 3) ls (v.toList ++ rest))) : W p l e R s m args below meth c H locs cells slots Q (F0 m pc ls st0) :=
  pu_call (ex_runS S hM cw hst ⟨fun _ _ _ _ q => q, fun _ _ _ => rfl⟩ rfl hn hsize hstack (lv_room hW) hdg hf) kk
end CtxCalls
end
section
/-! Machine ints and longs by whole numbers. -/
def iI (z : Int) : Int32 := Int32.ofInt z
def jJ (z : Int) : Int64 := Int64.ofInt z
abbrev In32 (z : Int) : Prop := -2147483648 ≤ z ∧ z < 2147483648
abbrev In64 (z : Int) : Prop := -9223372036854775808 ≤ z ∧ z < 9223372036854775808
theorem ii_to {z : Int} (h : In32 z) : (iI z).toInt = z := Int32.toInt_ofInt_of_le (by have := h.1; omega) (by have := h.2; omega)
theorem jj_to {z : Int} (h : In64 z) : (jJ z).toInt = z := Int64.toInt_ofInt_of_le (by have := h.1; omega) (by have := h.2; omega)
theorem ii_of (x : Int32) : x = iI x.toInt := (Int32.ofInt_toInt x).symm
theorem jj_of (x : Int64) : x = jJ x.toInt := (Int64.ofInt_toInt x).symm
theorem ii_rg (x : Int32) : In32 x.toInt := ⟨by have := x.minValue_le_toInt; simpa using this, by have := x.toInt_lt; omega⟩
theorem ii_ex (x : Int32) : ∃ z : Int, In32 z ∧ x = iI z := ⟨x.toInt, ii_rg x, ii_of x⟩
theorem ii_add (a b : Int) : iI a + iI b = iI (a + b) := (Int32.ofInt_add a b).symm
theorem ii_sub (a b : Int) : iI a - iI b = iI (a - b) := (Int32.ofInt_sub a b).symm
theorem ii_mul (a b : Int) : iI a * iI b = iI (a * b) := (Int32.ofInt_mul a b).symm
theorem ii_neg (a : Int) : -iI a = iI (-a) := (Int32.ofInt_neg a).symm
theorem jj_add (a b : Int) : jJ a + jJ b = jJ (a + b) := (Int64.ofInt_add a b).symm
theorem jj_sub (a b : Int) : jJ a - jJ b = jJ (a - b) := (Int64.ofInt_sub a b).symm
theorem jj_mul (a b : Int) : jJ a * jJ b = jJ (a * b) := (Int64.ofInt_mul a b).symm
theorem jj_neg (a : Int) : -jJ a = jJ (-a) := (Int64.ofInt_neg a).symm
theorem ii_lt {a b : Int} (ha : In32 a) (hb : In32 b) : iI a < iI b ↔ a < b := by rw [Int32.lt_iff_toInt_lt, ii_to ha, ii_to hb]
theorem ii_le {a b : Int} (ha : In32 a) (hb : In32 b) : iI a ≤ iI b ↔ a ≤ b := by rw [Int32.le_iff_toInt_le, ii_to ha, ii_to hb]
theorem ii_eq {a b : Int} (ha : In32 a) (hb : In32 b) : iI a = iI b ↔ a = b := by rw [← Int32.toInt_inj, ii_to ha, ii_to hb]
theorem jj_lt {a b : Int} (ha : In64 a) (hb : In64 b) : jJ a < jJ b ↔ a < b := by rw [Int64.lt_iff_toInt_lt, jj_to ha, jj_to hb]
theorem jj_le {a b : Int} (ha : In64 a) (hb : In64 b) : jJ a ≤ jJ b ↔ a ≤ b := by rw [Int64.le_iff_toInt_le, jj_to ha, jj_to hb]
theorem jj_eq {a b : Int} (ha : In64 a) (hb : In64 b) : jJ a = jJ b ↔ a = b := by rw [← Int64.toInt_inj, jj_to ha, jj_to hb]
theorem ii_0 : iI 0 = 0 := rfl
theorem jj_0 : jJ 0 = 0 := rfl
theorem ii_in {z : Int} {n : Nat} (h : 0 ≤ z ∧ z < n) (hn : (n : Int) < 2147483648) : vp_in (iI z) n := by
  rw [vp_in_iff, ii_to ⟨by omega, by omega⟩]
  exact h
theorem ii_cl {z : Int} (h : 0 ≤ z ∧ z < 2147483648) : (iI z).toNatClampNeg = z.toNat := by
  show (iI z).toInt.toNat = z.toNat
  rw [ii_to ⟨by omega, by omega⟩]
theorem ii_nI (n : Nat) : nI n = iI n := by
  show Int32.ofNat n = Int32.ofInt n
  exact (Int32.ofInt_eq_ofNat).symm
theorem ii_64 {z : Int} (h : In32 z) : (iI z).toInt64 = jJ z := by
  rw [← Int64.toInt_inj, Int32.toInt_toInt64, ii_to h, jj_to ⟨by have := h.1; omega, by have := h.2; omega⟩]
theorem ii_tdiv_rg {a b : Int} (ha : -2147483648 < a ∧ a < 2147483648) : In32 (a.tdiv b) := by
  have h1 : (a.tdiv b).natAbs ≤ a.natAbs := by rw [Int.natAbs_tdiv]; exact Nat.div_le_self _ _
  constructor <;> omega
theorem jj_tdiv_rg {a b : Int} (ha : -9223372036854775808 < a ∧ a < 9223372036854775808) : In64 (a.tdiv b) := by
  have h1 : (a.tdiv b).natAbs ≤ a.natAbs := by rw [Int.natAbs_tdiv]; exact Nat.div_le_self _ _
  constructor <;> omega
theorem ii_div {a b : Int} (ha : -2147483648 < a ∧ a < 2147483648) (hb : In32 b) : iI a / iI b = iI (a.tdiv b) := by
  have h0 : In32 a := ⟨by omega, ha.2⟩
  rw [← Int32.toInt_inj, Int32.toInt_div_of_ne_left _ _ (by intro h; have := congrArg Int32.toInt h; rw [ii_to h0] at this; have h2 : Int32.minValue.toInt = -2147483648 := rfl; omega), ii_to h0, ii_to hb, ii_to (ii_tdiv_rg ha)]
theorem jj_div {a b : Int} (ha : -9223372036854775808 < a ∧ a < 9223372036854775808) (hb : In64 b) : jJ a / jJ b = jJ (a.tdiv b) := by
  have h0 : In64 a := ⟨by omega, ha.2⟩
  rw [← Int64.toInt_inj, Int64.toInt_div_of_ne_left _ _ (by intro h; have := congrArg Int64.toInt h; rw [jj_to h0] at this; have h2 : Int64.minValue.toInt = -9223372036854775808 := rfl; omega), jj_to h0, jj_to hb, jj_to (jj_tdiv_rg ha)]
theorem ii_rem {a b : Int} (ha : -2147483648 < a ∧ a < 2147483648) (hb : In32 b) : iI a - iI a / iI b * iI b = iI (a.tmod b) := by
  rw [ii_div ha hb, ii_mul, ii_sub, Int.tmod_def, Int.mul_comm]
theorem jj_rem {a b : Int} (ha : -9223372036854775808 < a ∧ a < 9223372036854775808) (hb : In64 b) : jJ a - jJ a / jJ b * jJ b = jJ (a.tmod b) := by
  rw [jj_div ha hb, jj_mul, jj_sub, Int.tmod_def, Int.mul_comm]
section NumRows
variable {p : Program} {l : Launch} {e : Env} {R : Room} {s : State} {m : MethodId} {args : Array Value} {below : List Frame} {meth : Method} {c : Code} {H : Heap} {locs : List Loc} {cells slots : Nat} {Q : State → Prop}
variable {cc : ByteArray} {pc : Nat} {ls : Array Slot} {rest : List Value}
theorem ri_iconst (hx : p.tables.exec = Jvm.exec) (hb : c.code = cc) {n : Int} (hdg : decode cc pc = .ok (.iconst n, 1)) (k : W p l e R s m args below meth c H locs cells slots Q (F0 m (pc + 1) ls (.int (iI n) :: rest))) : W p l e R s m args below meth c H locs cells slots Q (F0 m pc ls rest) := lv_iconst hx hb hdg rfl k
theorem ri_bipush (hx : p.tables.exec = Jvm.exec) (hb : c.code = cc) {n : Int} (hdg : decode cc pc = .ok (.bipush n, 2)) (hv : (Int8.ofInt n).toInt32 = iI n) (k : W p l e R s m args below meth c H locs cells slots Q (F0 m (pc + 2) ls (.int (iI n) :: rest))) : W p l e R s m args below meth c H locs cells slots Q (F0 m pc ls rest) := lv_bipush hx hb hdg hv k
theorem ri_sipush (hx : p.tables.exec = Jvm.exec) (hb : c.code = cc) {n : Int} (hdg : decode cc pc = .ok (.sipush n, 3)) (hv : (Int16.ofInt n).toInt32 = iI n) (k : W p l e R s m args below meth c H locs cells slots Q (F0 m (pc + 3) ls (.int (iI n) :: rest))) : W p l e R s m args below meth c H locs cells slots Q (F0 m pc ls rest) := lv_sipush hx hb hdg hv k
theorem ri_lconst (hx : p.tables.exec = Jvm.exec) (hb : c.code = cc) {n : Fin 2} {z : Int} (hdg : decode cc pc = .ok (.lconst n, 1)) (hv : Int64.ofNat (n : Nat) = jJ z) (k : W p l e R s m args below meth c H locs cells slots Q (F0 m (pc + 1) ls (.long (jJ z) :: rest))) : W p l e R s m args below meth c H locs cells slots Q (F0 m pc ls rest) := lv_lconst hx hb hdg hv k
theorem ri_iadd (hx : p.tables.exec = Jvm.exec) (hb : c.code = cc) {a b : Int} (hdg : decode cc pc = .ok (.iadd, 1)) (k : W p l e R s m args below meth c H locs cells slots Q (F0 m (pc + 1) ls (.int (iI (a + b)) :: rest))) : W p l e R s m args below meth c H locs cells slots Q (F0 m pc ls (.int (iI b) :: .int (iI a) :: rest)) := lv_iadd hx hb hdg (by rw [ii_add]; exact k)
theorem ri_isub (hx : p.tables.exec = Jvm.exec) (hb : c.code = cc) {a b : Int} (hdg : decode cc pc = .ok (.isub, 1)) (k : W p l e R s m args below meth c H locs cells slots Q (F0 m (pc + 1) ls (.int (iI (a - b)) :: rest))) : W p l e R s m args below meth c H locs cells slots Q (F0 m pc ls (.int (iI b) :: .int (iI a) :: rest)) := lv_isub hx hb hdg (by rw [ii_sub]; exact k)
theorem ri_imul (hx : p.tables.exec = Jvm.exec) (hb : c.code = cc) {a b : Int} (hdg : decode cc pc = .ok (.imul, 1)) (k : W p l e R s m args below meth c H locs cells slots Q (F0 m (pc + 1) ls (.int (iI (a * b)) :: rest))) : W p l e R s m args below meth c H locs cells slots Q (F0 m pc ls (.int (iI b) :: .int (iI a) :: rest)) := lv_imul hx hb hdg (by rw [ii_mul]; exact k)
theorem ri_ladd (hx : p.tables.exec = Jvm.exec) (hb : c.code = cc) {a b : Int} (hdg : decode cc pc = .ok (.ladd, 1)) (k : W p l e R s m args below meth c H locs cells slots Q (F0 m (pc + 1) ls (.long (jJ (a + b)) :: rest))) : W p l e R s m args below meth c H locs cells slots Q (F0 m pc ls (.long (jJ b) :: .long (jJ a) :: rest)) := lv_ladd hx hb hdg (by rw [jj_add]; exact k)
theorem ri_lsub (hx : p.tables.exec = Jvm.exec) (hb : c.code = cc) {a b : Int} (hdg : decode cc pc = .ok (.lsub, 1)) (k : W p l e R s m args below meth c H locs cells slots Q (F0 m (pc + 1) ls (.long (jJ (a - b)) :: rest))) : W p l e R s m args below meth c H locs cells slots Q (F0 m pc ls (.long (jJ b) :: .long (jJ a) :: rest)) := lv_lsub hx hb hdg (by rw [jj_sub]; exact k)
theorem ri_lmul (hx : p.tables.exec = Jvm.exec) (hb : c.code = cc) {a b : Int} (hdg : decode cc pc = .ok (.lmul, 1)) (k : W p l e R s m args below meth c H locs cells slots Q (F0 m (pc + 1) ls (.long (jJ (a * b)) :: rest))) : W p l e R s m args below meth c H locs cells slots Q (F0 m pc ls (.long (jJ b) :: .long (jJ a) :: rest)) := lv_lmul hx hb hdg (by rw [jj_mul]; exact k)
theorem ri_ineg (hx : p.tables.exec = Jvm.exec) (hb : c.code = cc) {a : Int} (hdg : decode cc pc = .ok (.ineg, 1)) (k : W p l e R s m args below meth c H locs cells slots Q (F0 m (pc + 1) ls (.int (iI (-a)) :: rest))) : W p l e R s m args below meth c H locs cells slots Q (F0 m pc ls (.int (iI a) :: rest)) := lv_ineg hx hb hdg (by rw [ii_neg]; exact k)
theorem ri_lneg (hx : p.tables.exec = Jvm.exec) (hb : c.code = cc) {a : Int} (hdg : decode cc pc = .ok (.lneg, 1)) (k : W p l e R s m args below meth c H locs cells slots Q (F0 m (pc + 1) ls (.long (jJ (-a)) :: rest))) : W p l e R s m args below meth c H locs cells slots Q (F0 m pc ls (.long (jJ a) :: rest)) := lv_lneg hx hb hdg (by rw [jj_neg]; exact k)
theorem ri_idiv (hx : p.tables.exec = Jvm.exec) (hb : c.code = cc) {a b : Int} (hdg : decode cc pc = .ok (.idiv, 1)) (ha : -2147483648 < a ∧ a < 2147483648) (hb2 : In32 b) (hne : ¬ b = 0) (k : W p l e R s m args below meth c H locs cells slots Q (F0 m (pc + 1) ls (.int (iI (a.tdiv b)) :: rest))) : W p l e R s m args below meth c H locs cells slots Q (F0 m pc ls (.int (iI b) :: .int (iI a) :: rest)) := lv_idiv hx hb hdg (fun h => hne ((ii_eq hb2 (by decide)).mp h)) (by rw [ii_div ha hb2]; exact k)
theorem ri_irem (hx : p.tables.exec = Jvm.exec) (hb : c.code = cc) {a b : Int} (hdg : decode cc pc = .ok (.irem, 1)) (ha : -2147483648 < a ∧ a < 2147483648) (hb2 : In32 b) (hne : ¬ b = 0) (k : W p l e R s m args below meth c H locs cells slots Q (F0 m (pc + 1) ls (.int (iI (a.tmod b)) :: rest))) : W p l e R s m args below meth c H locs cells slots Q (F0 m pc ls (.int (iI b) :: .int (iI a) :: rest)) := lv_irem hx hb hdg (fun h => hne ((ii_eq hb2 (by decide)).mp h)) (by rw [ii_rem ha hb2]; exact k)
theorem ri_ldiv (hx : p.tables.exec = Jvm.exec) (hb : c.code = cc) {a b : Int} (hdg : decode cc pc = .ok (.ldiv, 1)) (ha : -9223372036854775808 < a ∧ a < 9223372036854775808) (hb2 : In64 b) (hne : ¬ b = 0) (k : W p l e R s m args below meth c H locs cells slots Q (F0 m (pc + 1) ls (.long (jJ (a.tdiv b)) :: rest))) : W p l e R s m args below meth c H locs cells slots Q (F0 m pc ls (.long (jJ b) :: .long (jJ a) :: rest)) := lv_ldiv hx hb hdg (fun h => hne ((jj_eq hb2 (by decide)).mp h)) (by rw [jj_div ha hb2]; exact k)
theorem ri_lrem (hx : p.tables.exec = Jvm.exec) (hb : c.code = cc) {a b : Int} (hdg : decode cc pc = .ok (.lrem, 1)) (ha : -9223372036854775808 < a ∧ a < 9223372036854775808) (hb2 : In64 b) (hne : ¬ b = 0) (k : W p l e R s m args below meth c H locs cells slots Q (F0 m (pc + 1) ls (.long (jJ (a.tmod b)) :: rest))) : W p l e R s m args below meth c H locs cells slots Q (F0 m pc ls (.long (jJ b) :: .long (jJ a) :: rest)) := lv_lrem hx hb hdg (fun h => hne ((jj_eq hb2 (by decide)).mp h)) (by rw [jj_rem ha hb2]; exact k)
theorem ri_i2l (hx : p.tables.exec = Jvm.exec) (hb : c.code = cc) {a : Int} (hdg : decode cc pc = .ok (.i2l, 1)) (ha : In32 a) (k : W p l e R s m args below meth c H locs cells slots Q (F0 m (pc + 1) ls (.long (jJ a) :: rest))) : W p l e R s m args below meth c H locs cells slots Q (F0 m pc ls (.int (iI a) :: rest)) := lv_i2l hx hb hdg (ii_64 ha) k
theorem ri_icmp_eq (hx : p.tables.exec = Jvm.exec) (hb0 : c.code = cc) {a b : Int} {off : Int} {tgt : Nat} (hdg : decode cc pc = .ok (.if_icmp .eq off, 3)) (ht : (pc : Int) + off = (tgt : Int)) (ha : In32 a) (hb : In32 b) (kt : a = b → W p l e R s m args below meth c H locs cells slots Q (F0 m tgt ls rest)) (kf : ¬ (a = b) → W p l e R s m args below meth c H locs cells slots Q (F0 m (pc + 3) ls rest)) : W p l e R s m args below meth c H locs cells slots Q (F0 m pc ls (.int (iI b) :: .int (iI a) :: rest)) := by
  exact lv_icmp_eq hx hb0 hdg ht (fun h => kt ((ii_eq ha hb).mp h)) (fun h => kf (fun q => h ((ii_eq ha hb).mpr q)))
theorem ri_if_eq (hx : p.tables.exec = Jvm.exec) (hb : c.code = cc) {a : Int} {off : Int} {tgt : Nat} (hdg : decode cc pc = .ok (.ifCond .eq off, 3)) (ht : (pc : Int) + off = (tgt : Int)) (ha : In32 a) (kt : a = 0 → W p l e R s m args below meth c H locs cells slots Q (F0 m tgt ls rest)) (kf : ¬ (a = 0) → W p l e R s m args below meth c H locs cells slots Q (F0 m (pc + 3) ls rest)) : W p l e R s m args below meth c H locs cells slots Q (F0 m pc ls (.int (iI a) :: rest)) := by
  have h0 : In32 0 := by decide
  exact lv_if_eq hx hb hdg ht (fun h => kt ((ii_eq (a := a) (b := 0) ha h0).mp h)) (fun h => kf (fun q => h ((ii_eq (a := a) (b := 0) ha h0).mpr q)))
theorem ri_icmp_ne (hx : p.tables.exec = Jvm.exec) (hb0 : c.code = cc) {a b : Int} {off : Int} {tgt : Nat} (hdg : decode cc pc = .ok (.if_icmp .ne off, 3)) (ht : (pc : Int) + off = (tgt : Int)) (ha : In32 a) (hb : In32 b) (kt : ¬ a = b → W p l e R s m args below meth c H locs cells slots Q (F0 m tgt ls rest)) (kf : a = b → W p l e R s m args below meth c H locs cells slots Q (F0 m (pc + 3) ls rest)) : W p l e R s m args below meth c H locs cells slots Q (F0 m pc ls (.int (iI b) :: .int (iI a) :: rest)) := by
  exact lv_icmp_ne hx hb0 hdg ht (fun h => kt (fun q => h ((ii_eq ha hb).mpr q))) (fun h => kf ((ii_eq ha hb).mp h))
theorem ri_if_ne (hx : p.tables.exec = Jvm.exec) (hb : c.code = cc) {a : Int} {off : Int} {tgt : Nat} (hdg : decode cc pc = .ok (.ifCond .ne off, 3)) (ht : (pc : Int) + off = (tgt : Int)) (ha : In32 a) (kt : ¬ a = 0 → W p l e R s m args below meth c H locs cells slots Q (F0 m tgt ls rest)) (kf : a = 0 → W p l e R s m args below meth c H locs cells slots Q (F0 m (pc + 3) ls rest)) : W p l e R s m args below meth c H locs cells slots Q (F0 m pc ls (.int (iI a) :: rest)) := by
  have h0 : In32 0 := by decide
  exact lv_if_ne hx hb hdg ht (fun h => kt (fun q => h ((ii_eq (a := a) (b := 0) ha h0).mpr q))) (fun h => kf ((ii_eq (a := a) (b := 0) ha h0).mp h))
theorem ri_icmp_lt (hx : p.tables.exec = Jvm.exec) (hb0 : c.code = cc) {a b : Int} {off : Int} {tgt : Nat} (hdg : decode cc pc = .ok (.if_icmp .lt off, 3)) (ht : (pc : Int) + off = (tgt : Int)) (ha : In32 a) (hb : In32 b) (kt : a < b → W p l e R s m args below meth c H locs cells slots Q (F0 m tgt ls rest)) (kf : ¬ (a < b) → W p l e R s m args below meth c H locs cells slots Q (F0 m (pc + 3) ls rest)) : W p l e R s m args below meth c H locs cells slots Q (F0 m pc ls (.int (iI b) :: .int (iI a) :: rest)) := by
  exact lv_icmp_lt hx hb0 hdg ht (fun h => kt ((ii_lt ha hb).mp h)) (fun h => kf (fun q => h ((ii_lt ha hb).mpr q)))
theorem ri_if_lt (hx : p.tables.exec = Jvm.exec) (hb : c.code = cc) {a : Int} {off : Int} {tgt : Nat} (hdg : decode cc pc = .ok (.ifCond .lt off, 3)) (ht : (pc : Int) + off = (tgt : Int)) (ha : In32 a) (kt : a < 0 → W p l e R s m args below meth c H locs cells slots Q (F0 m tgt ls rest)) (kf : ¬ (a < 0) → W p l e R s m args below meth c H locs cells slots Q (F0 m (pc + 3) ls rest)) : W p l e R s m args below meth c H locs cells slots Q (F0 m pc ls (.int (iI a) :: rest)) := by
  have h0 : In32 0 := by decide
  exact lv_if_lt hx hb hdg ht (fun h => kt ((ii_lt (a := a) (b := 0) ha h0).mp h)) (fun h => kf (fun q => h ((ii_lt (a := a) (b := 0) ha h0).mpr q)))
theorem ri_icmp_ge (hx : p.tables.exec = Jvm.exec) (hb0 : c.code = cc) {a b : Int} {off : Int} {tgt : Nat} (hdg : decode cc pc = .ok (.if_icmp .ge off, 3)) (ht : (pc : Int) + off = (tgt : Int)) (ha : In32 a) (hb : In32 b) (kt : b ≤ a → W p l e R s m args below meth c H locs cells slots Q (F0 m tgt ls rest)) (kf : ¬ (b ≤ a) → W p l e R s m args below meth c H locs cells slots Q (F0 m (pc + 3) ls rest)) : W p l e R s m args below meth c H locs cells slots Q (F0 m pc ls (.int (iI b) :: .int (iI a) :: rest)) := by
  exact lv_icmp_ge hx hb0 hdg ht (fun h => kt ((ii_le hb ha).mp h)) (fun h => kf (fun q => h ((ii_le hb ha).mpr q)))
theorem ri_if_ge (hx : p.tables.exec = Jvm.exec) (hb : c.code = cc) {a : Int} {off : Int} {tgt : Nat} (hdg : decode cc pc = .ok (.ifCond .ge off, 3)) (ht : (pc : Int) + off = (tgt : Int)) (ha : In32 a) (kt : 0 ≤ a → W p l e R s m args below meth c H locs cells slots Q (F0 m tgt ls rest)) (kf : ¬ (0 ≤ a) → W p l e R s m args below meth c H locs cells slots Q (F0 m (pc + 3) ls rest)) : W p l e R s m args below meth c H locs cells slots Q (F0 m pc ls (.int (iI a) :: rest)) := by
  have h0 : In32 0 := by decide
  exact lv_if_ge hx hb hdg ht (fun h => kt ((ii_le (a := 0) (b := a) h0 ha).mp h)) (fun h => kf (fun q => h ((ii_le (a := 0) (b := a) h0 ha).mpr q)))
theorem ri_icmp_gt (hx : p.tables.exec = Jvm.exec) (hb0 : c.code = cc) {a b : Int} {off : Int} {tgt : Nat} (hdg : decode cc pc = .ok (.if_icmp .gt off, 3)) (ht : (pc : Int) + off = (tgt : Int)) (ha : In32 a) (hb : In32 b) (kt : b < a → W p l e R s m args below meth c H locs cells slots Q (F0 m tgt ls rest)) (kf : ¬ (b < a) → W p l e R s m args below meth c H locs cells slots Q (F0 m (pc + 3) ls rest)) : W p l e R s m args below meth c H locs cells slots Q (F0 m pc ls (.int (iI b) :: .int (iI a) :: rest)) := by
  exact lv_icmp_gt hx hb0 hdg ht (fun h => kt ((ii_lt hb ha).mp h)) (fun h => kf (fun q => h ((ii_lt hb ha).mpr q)))
theorem ri_if_gt (hx : p.tables.exec = Jvm.exec) (hb : c.code = cc) {a : Int} {off : Int} {tgt : Nat} (hdg : decode cc pc = .ok (.ifCond .gt off, 3)) (ht : (pc : Int) + off = (tgt : Int)) (ha : In32 a) (kt : 0 < a → W p l e R s m args below meth c H locs cells slots Q (F0 m tgt ls rest)) (kf : ¬ (0 < a) → W p l e R s m args below meth c H locs cells slots Q (F0 m (pc + 3) ls rest)) : W p l e R s m args below meth c H locs cells slots Q (F0 m pc ls (.int (iI a) :: rest)) := by
  have h0 : In32 0 := by decide
  exact lv_if_gt hx hb hdg ht (fun h => kt ((ii_lt (a := 0) (b := a) h0 ha).mp h)) (fun h => kf (fun q => h ((ii_lt (a := 0) (b := a) h0 ha).mpr q)))
theorem ri_icmp_le (hx : p.tables.exec = Jvm.exec) (hb0 : c.code = cc) {a b : Int} {off : Int} {tgt : Nat} (hdg : decode cc pc = .ok (.if_icmp .le off, 3)) (ht : (pc : Int) + off = (tgt : Int)) (ha : In32 a) (hb : In32 b) (kt : a ≤ b → W p l e R s m args below meth c H locs cells slots Q (F0 m tgt ls rest)) (kf : ¬ (a ≤ b) → W p l e R s m args below meth c H locs cells slots Q (F0 m (pc + 3) ls rest)) : W p l e R s m args below meth c H locs cells slots Q (F0 m pc ls (.int (iI b) :: .int (iI a) :: rest)) := by
  exact lv_icmp_le hx hb0 hdg ht (fun h => kt ((ii_le ha hb).mp h)) (fun h => kf (fun q => h ((ii_le ha hb).mpr q)))
theorem ri_if_le (hx : p.tables.exec = Jvm.exec) (hb : c.code = cc) {a : Int} {off : Int} {tgt : Nat} (hdg : decode cc pc = .ok (.ifCond .le off, 3)) (ht : (pc : Int) + off = (tgt : Int)) (ha : In32 a) (kt : a ≤ 0 → W p l e R s m args below meth c H locs cells slots Q (F0 m tgt ls rest)) (kf : ¬ (a ≤ 0) → W p l e R s m args below meth c H locs cells slots Q (F0 m (pc + 3) ls rest)) : W p l e R s m args below meth c H locs cells slots Q (F0 m pc ls (.int (iI a) :: rest)) := by
  have h0 : In32 0 := by decide
  exact lv_if_le hx hb hdg ht (fun h => kt ((ii_le (a := a) (b := 0) ha h0).mp h)) (fun h => kf (fun q => h ((ii_le (a := a) (b := 0) ha h0).mpr q)))
theorem ri_lc_lt (hx : p.tables.exec = Jvm.exec) (hb : c.code = cc) {a b : Int} {off : Int} {tgt : Nat} (hd0 : decode cc pc = .ok (.lcmp, 1)) (hdg : decode cc (pc + 1) = .ok (.ifCond .lt off, 3)) (ht : ((pc + 1 : Nat) : Int) + off = (tgt : Int)) (ha : In64 a) (hb2 : In64 b) (kt : a < b → W p l e R s m args below meth c H locs cells slots Q (F0 m tgt ls rest)) (kf : ¬ (a < b) → W p l e R s m args below meth c H locs cells slots Q (F0 m (pc + 4) ls rest)) : W p l e R s m args below meth c H locs cells slots Q (F0 m pc ls (.long (jJ b) :: .long (jJ a) :: rest)) := by
  refine W.lcmp hx hb hd0 ?_
  exact lv_if_lt hx hb hdg ht (fun h => kt (((lg_cmp_lt _ _).trans (jj_lt ha hb2)).mp h)) (fun h => kf (fun q => h (((lg_cmp_lt _ _).trans (jj_lt ha hb2)).mpr q)))
theorem ri_lc_ge (hx : p.tables.exec = Jvm.exec) (hb : c.code = cc) {a b : Int} {off : Int} {tgt : Nat} (hd0 : decode cc pc = .ok (.lcmp, 1)) (hdg : decode cc (pc + 1) = .ok (.ifCond .ge off, 3)) (ht : ((pc + 1 : Nat) : Int) + off = (tgt : Int)) (ha : In64 a) (hb2 : In64 b) (kt : b ≤ a → W p l e R s m args below meth c H locs cells slots Q (F0 m tgt ls rest)) (kf : ¬ (b ≤ a) → W p l e R s m args below meth c H locs cells slots Q (F0 m (pc + 4) ls rest)) : W p l e R s m args below meth c H locs cells slots Q (F0 m pc ls (.long (jJ b) :: .long (jJ a) :: rest)) := by
  refine W.lcmp hx hb hd0 ?_
  exact lv_if_ge hx hb hdg ht (fun h => kt (Int.not_lt.mp fun q => absurd (((lg_cmp_lt _ _).trans (jj_lt ha hb2)).mpr q) (Int32.not_lt.mpr h))) (fun h => kf (fun q => h (Int32.not_lt.mp fun z => absurd (((lg_cmp_lt _ _).trans (jj_lt ha hb2)).mp z) (Int.not_lt.mpr q))))
theorem ri_lc_gt (hx : p.tables.exec = Jvm.exec) (hb : c.code = cc) {a b : Int} {off : Int} {tgt : Nat} (hd0 : decode cc pc = .ok (.lcmp, 1)) (hdg : decode cc (pc + 1) = .ok (.ifCond .gt off, 3)) (ht : ((pc + 1 : Nat) : Int) + off = (tgt : Int)) (ha : In64 a) (hb2 : In64 b) (kt : b < a → W p l e R s m args below meth c H locs cells slots Q (F0 m tgt ls rest)) (kf : ¬ (b < a) → W p l e R s m args below meth c H locs cells slots Q (F0 m (pc + 4) ls rest)) : W p l e R s m args below meth c H locs cells slots Q (F0 m pc ls (.long (jJ b) :: .long (jJ a) :: rest)) := by
  refine W.lcmp hx hb hd0 ?_
  exact lv_if_gt hx hb hdg ht (fun h => kt (((lg_cmp_gt _ _).trans (jj_lt hb2 ha)).mp h)) (fun h => kf (fun q => h (((lg_cmp_gt _ _).trans (jj_lt hb2 ha)).mpr q)))
theorem ri_lc_le (hx : p.tables.exec = Jvm.exec) (hb : c.code = cc) {a b : Int} {off : Int} {tgt : Nat} (hd0 : decode cc pc = .ok (.lcmp, 1)) (hdg : decode cc (pc + 1) = .ok (.ifCond .le off, 3)) (ht : ((pc + 1 : Nat) : Int) + off = (tgt : Int)) (ha : In64 a) (hb2 : In64 b) (kt : a ≤ b → W p l e R s m args below meth c H locs cells slots Q (F0 m tgt ls rest)) (kf : ¬ (a ≤ b) → W p l e R s m args below meth c H locs cells slots Q (F0 m (pc + 4) ls rest)) : W p l e R s m args below meth c H locs cells slots Q (F0 m pc ls (.long (jJ b) :: .long (jJ a) :: rest)) := by
  refine W.lcmp hx hb hd0 ?_
  exact lv_if_le hx hb hdg ht (fun h => kt (Int.not_lt.mp fun q => absurd (((lg_cmp_gt _ _).trans (jj_lt hb2 ha)).mpr q) (Int32.not_lt.mpr h))) (fun h => kf (fun q => h (Int32.not_lt.mp fun z => absurd (((lg_cmp_gt _ _).trans (jj_lt hb2 ha)).mp z) (Int.not_lt.mpr q))))
theorem ri_lc_eq (hx : p.tables.exec = Jvm.exec) (hb : c.code = cc) {a b : Int} {off : Int} {tgt : Nat} (hd0 : decode cc pc = .ok (.lcmp, 1)) (hdg : decode cc (pc + 1) = .ok (.ifCond .eq off, 3)) (ht : ((pc + 1 : Nat) : Int) + off = (tgt : Int)) (ha : In64 a) (hb2 : In64 b) (kt : a = b → W p l e R s m args below meth c H locs cells slots Q (F0 m tgt ls rest)) (kf : ¬ (a = b) → W p l e R s m args below meth c H locs cells slots Q (F0 m (pc + 4) ls rest)) : W p l e R s m args below meth c H locs cells slots Q (F0 m pc ls (.long (jJ b) :: .long (jJ a) :: rest)) := by
  refine W.lcmp hx hb hd0 ?_
  exact lv_if_eq hx hb hdg ht (fun h => kt (((lg_cmp_eq _ _).trans (jj_eq ha hb2)).mp h)) (fun h => kf (fun q => h (((lg_cmp_eq _ _).trans (jj_eq ha hb2)).mpr q)))
theorem ri_lc_ne (hx : p.tables.exec = Jvm.exec) (hb : c.code = cc) {a b : Int} {off : Int} {tgt : Nat} (hd0 : decode cc pc = .ok (.lcmp, 1)) (hdg : decode cc (pc + 1) = .ok (.ifCond .ne off, 3)) (ht : ((pc + 1 : Nat) : Int) + off = (tgt : Int)) (ha : In64 a) (hb2 : In64 b) (kt : ¬ a = b → W p l e R s m args below meth c H locs cells slots Q (F0 m tgt ls rest)) (kf : a = b → W p l e R s m args below meth c H locs cells slots Q (F0 m (pc + 4) ls rest)) : W p l e R s m args below meth c H locs cells slots Q (F0 m pc ls (.long (jJ b) :: .long (jJ a) :: rest)) := by
  refine W.lcmp hx hb hd0 ?_
  exact lv_if_ne hx hb hdg ht (fun h => kt (fun q => h (((lg_cmp_eq _ _).trans (jj_eq ha hb2)).mpr q))) (fun h => kf (((lg_cmp_eq _ _).trans (jj_eq ha hb2)).mp h))
end NumRows
end
section
/-! Arrays by functions of whole numbers; what is new comes to the front of the world. -/
abbrev ai (n : Nat) (r : Int → Int) : vp_A := (n, .inl (fun j : Nat => iI (r j)))
abbrev al (n : Nat) (r : Int → Int) : vp_A := (n, .inr (.inl (fun j : Nat => jJ (r j))))
abbrev aq (n : Nat) (g : Int → Option Nat) : vp_A := (n, .inr (.inr (.inr (.inr (fun j : Nat => g j)))))
def zU {α : Type} (r : Int → α) (z : Int) (v : α) : Int → α := fun j => if j = z then v else r j
theorem zU_eq {α : Type} {r : Int → α} {z : Int} {v : α} : zU r z v z = v := if_pos rfl
theorem zU_ne {α : Type} {r : Int → α} {z j : Int} {v : α} (h : j ≠ z) : zU r z v j = r j := if_neg h
theorem zU_i (r : Int → Int) {z : Int} (v : Int) (h : 0 ≤ z ∧ z < 2147483648) : upd (fun j : Nat => iI (r j)) (iI z).toNatClampNeg (iI v) = fun j : Nat => iI (zU r z v j) := by
  funext j
  rw [ii_cl h]
  unfold upd zU
  by_cases hj : (j : Int) = z
  · rw [if_pos hj, if_pos (by omega)]
  · rw [if_neg hj, if_neg (by omega)]
theorem zU_l (r : Int → Int) {z : Int} (v : Int) (h : 0 ≤ z ∧ z < 2147483648) : vp_updL (fun j : Nat => jJ (r j)) (iI z).toNatClampNeg (jJ v) = fun j : Nat => jJ (zU r z v j) := by
  funext j
  rw [ii_cl h]
  unfold vp_updL zU
  by_cases hj : (j : Int) = z
  · rw [if_pos hj, if_pos (by omega)]
  · rw [if_neg hj, if_neg (by omega)]
theorem zU_q (g : Int → Option Nat) {z : Int} (v : Option Nat) (h : 0 ≤ z ∧ z < 2147483648) : va_up (fun j : Nat => g j) (iI z).toNatClampNeg v = fun j : Nat => zU g z v j := by
  funext j
  rw [ii_cl h]
  unfold va_up zU
  by_cases hj : (j : Int) = z
  · rw [if_pos hj, if_pos (by omega)]
  · rw [if_neg hj, if_neg (by omega)]
theorem ii_nneg {z : Int} (h : 0 ≤ z ∧ z < 2147483648) : ¬ iI z < 0 := fun q => absurd ((ii_lt (b := 0) ⟨by omega, h.2⟩ (by decide)).mp q) (by omega)
section ArrRows
variable {p : Program} {l : Launch} {e : Env} {R : Room} {s : State} {m : MethodId} {args : Array Value} {below : List Frame} {meth : Method} {c : Code} {H : Heap} {locs : List Loc} {cells slots : Nat} {Q : State → Prop}
variable {cc : ByteArray} {pc : Nat} {ls : Array Slot} {rest : List Value} {D : va_G} {k : Nat → ClassId} {A : Nat → Prop} {a : Nat} {ws : va_W} {H0 : Heap}
theorem ra_iald (hx : p.tables.exec = Jvm.exec) (hb : c.code = cc) (hK : va_K D classes (tysOf k) s) (hP : va_P D classes ws H) (q0 : Nat) {n : Nat} {r : Int → Int} {z : Int} (ha : ws[q0]? = some (a, .inl (k 0, ai n r))) (hz : 0 ≤ z ∧ z < n) (hn : (n : Int) < 2147483648) (hdg : decode cc pc = .ok (.iaload, 1))
    (kk : W p l e R s m args below meth c H locs cells slots Q (F0 m (pc + 1) ls (.int (iI (r z)) :: rest))) : W p l e R s m args below meth c H locs cells slots Q (F0 m pc ls (.int (iI z) :: .ref a :: rest)) := by
  refine va_iald hx hb hK hP q0 0 ha rfl (ii_in hz hn) hdg ?_
  rw [ii_cl ⟨hz.1, by omega⟩, Int.toNat_of_nonneg hz.1]
  exact kk
theorem ra_iast (hx : p.tables.exec = Jvm.exec) (hb : c.code = cc) (hK : va_K D classes (tysOf k) s) (hP : va_P D classes ws H) (hD : va_D A ws) (hS : va_S A H0 H locs) (q0 : Nat) {n : Nat} {r : Int → Int} {z v : Int} (ha : ws[q0]? = some (a, .inl (k 0, ai n r))) (hz : 0 ≤ z ∧ z < n) (hn : (n : Int) < 2147483648) (hdg : decode cc pc = .ok (.iastore, 1))
    (kk : ∀ (H1 : Heap) (locs1 : List Loc), va_P D classes (ws.set q0 (a, .inl (k 0, ai n (zU r z v)))) H1 → va_D A (ws.set q0 (a, .inl (k 0, ai n (zU r z v)))) → va_S A H0 H1 locs1 → W p l e R s m args below meth c H1 locs1 cells slots Q (F0 m (pc + 1) ls rest)) : W p l e R s m args below meth c H locs cells slots Q (F0 m pc ls (.int (iI v) :: .int (iI z) :: .ref a :: rest)) := by
  refine va_iast hx hb hK hP hD hS q0 0 ha rfl (ii_in hz hn) hdg (fun H1 locs1 h1 h2 h3 => ?_)
  rw [zU_i r v ⟨hz.1, by omega⟩] at h1 h2
  exact kk H1 locs1 h1 h2 h3
theorem ra_lald (hx : p.tables.exec = Jvm.exec) (hb : c.code = cc) (hK : va_K D classes (tysOf k) s) (hP : va_P D classes ws H) (q0 : Nat) {n : Nat} {r : Int → Int} {z : Int} (ha : ws[q0]? = some (a, .inl (k 1, al n r))) (hz : 0 ≤ z ∧ z < n) (hn : (n : Int) < 2147483648) (hdg : decode cc pc = .ok (.laload, 1))
    (kk : W p l e R s m args below meth c H locs cells slots Q (F0 m (pc + 1) ls (.long (jJ (r z)) :: rest))) : W p l e R s m args below meth c H locs cells slots Q (F0 m pc ls (.int (iI z) :: .ref a :: rest)) := by
  refine va_lald hx hb hK hP q0 1 ha rfl (ii_in hz hn) hdg ?_
  rw [ii_cl ⟨hz.1, by omega⟩, Int.toNat_of_nonneg hz.1]
  exact kk
theorem ra_last (hx : p.tables.exec = Jvm.exec) (hb : c.code = cc) (hK : va_K D classes (tysOf k) s) (hP : va_P D classes ws H) (hD : va_D A ws) (hS : va_S A H0 H locs) (q0 : Nat) {n : Nat} {r : Int → Int} {z v : Int} (ha : ws[q0]? = some (a, .inl (k 1, al n r))) (hz : 0 ≤ z ∧ z < n) (hn : (n : Int) < 2147483648) (hdg : decode cc pc = .ok (.lastore, 1))
    (kk : ∀ (H1 : Heap) (locs1 : List Loc), va_P D classes (ws.set q0 (a, .inl (k 1, al n (zU r z v)))) H1 → va_D A (ws.set q0 (a, .inl (k 1, al n (zU r z v)))) → va_S A H0 H1 locs1 → W p l e R s m args below meth c H1 locs1 cells slots Q (F0 m (pc + 1) ls rest)) : W p l e R s m args below meth c H locs cells slots Q (F0 m pc ls (.long (jJ v) :: .int (iI z) :: .ref a :: rest)) := by
  refine va_last hx hb hK hP hD hS q0 1 ha rfl (ii_in hz hn) hdg (fun H1 locs1 h1 h2 h3 => ?_)
  rw [zU_l r v ⟨hz.1, by omega⟩] at h1 h2
  exact kk H1 locs1 h1 h2 h3
theorem ra_ald (hx : p.tables.exec = Jvm.exec) (hb : c.code = cc) (hK : va_K D classes (tysOf k) s) (hP : va_P D classes ws H) (q0 t0 : Nat) {n : Nat} {cA : ClassId} {C : String} {g : Int → Option Nat} {z : Int} {o : Option Nat} {v : Value} (ha : ws[q0]? = some (a, .inl (cA, aq n g))) (ht : (tysOf k)[t0]? = some (cA, .object C)) (hz : 0 ≤ z ∧ z < n) (hn : (n : Int) < 2147483648) (ho : g z = o) (hv : va_rf o = v) (hdg : decode cc pc = .ok (.aaload, 1))
    (kk : W p l e R s m args below meth c H locs cells slots Q (F0 m (pc + 1) ls (v :: rest))) : W p l e R s m args below meth c H locs cells slots Q (F0 m pc ls (.int (iI z) :: .ref a :: rest)) := by
  refine va_aldq hx hb hK hP q0 t0 ha ht (ii_in hz hn) hdg ?_
  show W p l e R s m args below meth c H locs cells slots Q (F0 m (pc + 1) ls (va_rf (g ((iI z).toNatClampNeg : Nat)) :: rest))
  rw [ii_cl ⟨hz.1, by omega⟩, Int.toNat_of_nonneg hz.1, ho, hv]
  exact kk
theorem ra_ast (hx : p.tables.exec = Jvm.exec) (hb : c.code = cc) (hK : va_K D classes (tysOf k) s) (hP : va_P D classes ws H) (hD : va_D A ws) (hS : va_S A H0 H locs) (q0 t0 qk ci : Nat) {cA : ClassId} {rc : vw_C} {n v : Nat} {vs : List Value} {g : Int → Option Nat} {z : Int} (ha : ws[q0]? = some (a, .inl (cA, aq n g))) (ht : (tysOf k)[t0]? = some (cA, .object rc.1)) (hv : ws[qk]? = some (v, .inr (ci, vs))) (hc : classes[ci]? = some rc) (hz : 0 ≤ z ∧ z < n) (hn : (n : Int) < 2147483648) (hdg : decode cc pc = .ok (.aastore, 1))
    (kk : ∀ (H1 : Heap) (locs1 : List Loc), va_P D classes (ws.set q0 (a, .inl (cA, aq n (zU g z (some v))))) H1 → va_D A (ws.set q0 (a, .inl (cA, aq n (zU g z (some v))))) → va_S A H0 H1 locs1 → W p l e R s m args below meth c H1 locs1 cells slots Q (F0 m (pc + 1) ls rest)) : W p l e R s m args below meth c H locs cells slots Q (F0 m pc ls (.ref v :: .int (iI z) :: .ref a :: rest)) := by
  refine va_astq hx hb hK hP hD hS q0 t0 qk ci ha ht hv hc (ii_in hz hn) hdg (fun H1 locs1 h1 h2 h3 => ?_)
  rw [zU_q g (some v) ⟨hz.1, by omega⟩] at h1 h2
  exact kk H1 locs1 h1 h2 h3
theorem ra_alen (hx : p.tables.exec = Jvm.exec) (hb : c.code = cc) (hK : va_K D classes (tysOf k) s) (hP : va_P D classes ws H) (q0 t0 : Nat) {cA : ClassId} {x : vp_A} {ty : FieldType} {z : Int} (ha : ws[q0]? = some (a, .inl (cA, x))) (ht : (tysOf k)[t0]? = some (cA, ty)) (hz : (x.1 : Int) = z) (hdg : decode cc pc = .ok (.arraylength, 1))
    (kk : W p l e R s m args below meth c H locs cells slots Q (F0 m (pc + 1) ls (.int (iI z) :: rest))) : W p l e R s m args below meth c H locs cells slots Q (F0 m pc ls (.ref a :: rest)) :=
  va_alen hx hb hK hP q0 t0 ha ht (by rw [← hz]; exact ii_nI x.1) hdg kk
theorem ra_cls {cA : ClassId} {ty : FieldType} (hK : va_K D classes (tysOf k ++ [(cA, ty)]) s) (t0 : Nat) (ht : (tysOf k)[t0]? = some (k t0, ty)) (hf : ∀ cB : ClassId, va_RA s cB ty → s.vm.findClass ("[" ++ ty.toString) = some cB) : cA = k t0 := by
  have h1 := hf _ (hK.2 6 (cA, ty) rfl).2
  have hl : t0 < (tysOf k).length := (List.getElem?_eq_some_iff.mp ht).1
  have h2 := hf _ (hK.2 t0 (k t0, ty) (by rw [List.getElem?_append_left hl]; exact ht)).2
  exact Option.some.inj (h1.symm.trans h2)
theorem ra_K {cA : ClassId} {ty : FieldType} (hK : va_K D classes (tysOf k ++ [(cA, ty)]) s) : va_K D classes (tysOf k) s := hK.sub [0, 1, 2, 3, 4, 5] rfl
theorem ra_newi (hx : p.tables.exec = Jvm.exec) (hb : c.code = cc) (hG : ∀ w ∈ GW, w.before args s = true) (harr : Cond.arrayClass .int ∈ GW) (hK : va_K D classes (tysOf k) s) (hP : va_P D classes ws H) (hD : va_D A ws) (hS : va_S A H0 H locs) (hA : ∀ q, H0.size ≤ q → A q) {z : Int} {N : Nat} (hz : z = N) (hN : N < 100000000) (hcells : cells + 1 ≤ R.cells) (hslots : slots + N ≤ R.slots) (hdg : decode cc pc = .ok (.newarray .int, 2))
    (kk : ∀ (q : Nat) (H1 : Heap), va_P D classes ((q, .inl (k 0, ai N (fun _ => 0))) :: ws) H1 → va_D A ((q, .inl (k 0, ai N (fun _ => 0))) :: ws) → va_S A H0 H1 locs → W p l e R s m args below meth c H1 locs (cells + 1) (slots + N) Q (F0 m (pc + 2) ls (.ref q :: rest))) : W p l e R s m args below meth c H locs cells slots Q (F0 m pc ls (.int (iI z) :: rest)) := by
  subst hz
  refine va_newa (atype := .int) (ty := .int) (N' := N) (a0 := ai N (fun _ => 0)) hx hb (hG _ harr) rfl hK hP hD hS hA (fun cA => rfl) (ii_nneg (by omega)) (by rw [ii_cl ⟨by omega, by omega⟩]; omega) (by show N * 4 ≤ 536870912; omega) hcells hslots hdg (fun q cA H1 hK1 h1 h2 h3 => ?_)
  have e1 : cA = k 0 := ra_cls hK1 0 rfl (fun cB h => h)
  subst e1
  exact kk q H1 (wl_Pf h1) (wl_Df h2) h3
theorem ra_newl (hx : p.tables.exec = Jvm.exec) (hb : c.code = cc) (hG : ∀ w ∈ GW, w.before args s = true) (harr : Cond.arrayClass .long ∈ GW) (hK : va_K D classes (tysOf k) s) (hP : va_P D classes ws H) (hD : va_D A ws) (hS : va_S A H0 H locs) (hA : ∀ q, H0.size ≤ q → A q) {z : Int} {N : Nat} (hz : z = N) (hN : N < 10000000) (hcells : cells + 1 ≤ R.cells) (hslots : slots + N ≤ R.slots) (hdg : decode cc pc = .ok (.newarray .long, 2))
    (kk : ∀ (q : Nat) (H1 : Heap), va_P D classes ((q, .inl (k 1, al N (fun _ => 0))) :: ws) H1 → va_D A ((q, .inl (k 1, al N (fun _ => 0))) :: ws) → va_S A H0 H1 locs → W p l e R s m args below meth c H1 locs (cells + 1) (slots + N) Q (F0 m (pc + 2) ls (.ref q :: rest))) : W p l e R s m args below meth c H locs cells slots Q (F0 m pc ls (.int (iI z) :: rest)) := by
  subst hz
  refine va_newa (atype := .long) (ty := .long) (N' := N) (a0 := al N (fun _ => 0)) hx hb (hG _ harr) rfl hK hP hD hS hA (fun cA => rfl) (ii_nneg (by omega)) (by rw [ii_cl ⟨by omega, by omega⟩]; omega) (by show N * 8 ≤ 536870912; omega) hcells hslots hdg (fun q cA H1 hK1 h1 h2 h3 => ?_)
  have e1 : cA = k 1 := ra_cls hK1 1 rfl (fun cB h => h)
  subst e1
  exact kk q H1 (wl_Pf h1) (wl_Df h2) h3
theorem ra_newq (hx : p.tables.exec = Jvm.exec) (hb : c.code = cc) (hG : ∀ w ∈ GW, w.before args s = true) {own C : String} {index t0 : Nat} (hown : s.vm.findClass own = some m.cls) (hclink : Cond.classLink own index C ∈ GW) (hover : va_AO C s) (hK : va_K D classes (tysOf k) s) (hP : va_P D classes ws H) (hD : va_D A ws) (hS : va_S A H0 H locs) (hA : ∀ q, H0.size ≤ q → A q) {z : Int} {N : Nat} (ht : (tysOf k)[t0]? = some (k t0, .object C)) (hz : z = N) (hN : N < 100000000) (hcells : cells + 1 ≤ R.cells) (hslots : slots + N ≤ R.slots) (hdg : decode cc pc = .ok (.anewarray index, 3))
    (kk : ∀ (q : Nat) (H1 : Heap), va_P D classes ((q, .inl (k t0, aq N (fun _ => none))) :: ws) H1 → va_D A ((q, .inl (k t0, aq N (fun _ => none))) :: ws) → va_S A H0 H1 locs → W p l e R s m args below meth c H1 locs (cells + 1) (slots + N) Q (F0 m (pc + 3) ls (.ref q :: rest))) : W p l e R s m args below meth c H locs cells slots Q (F0 m pc ls (.int (iI z) :: rest)) := by
  subst hz
  refine va_newq (N' := N) hx hb hown (hG _ hclink) hover hK hP hD hS hA (ii_nneg (by omega)) (by rw [ii_cl ⟨by omega, by omega⟩]; omega) (by omega) hcells hslots hdg (fun q cA H1 hK1 h1 h2 h3 => ?_)
  have e1 : cA = k t0 := ra_cls hK1 t0 ht (fun cB h => by obtain ⟨kA, comp, -, -, -, h4⟩ := h; exact h4)
  subst e1
  exact kk q H1 (wl_Pf h1) (wl_Df h2) h3
theorem ra_new {own C : String} {T : u_T} {N ci index : Nat} (hx : p.tables.exec = Jvm.exec) (hb : c.code = cc) (hG : ∀ w ∈ GW, w.before args s = true) (hin : ∀ w ∈ u_ws C T N, w ∈ GW) (ty : Nat → FieldType) (hty : ∀ k, k < N → parseFieldDescriptor (T k).2.2.1 = some (ty k)) (hown : s.vm.findClass own = some m.cls) (hcl : Cond.classLink own index C ∈ GW) (hinst : Cond.instantiable C N ∈ GW) (hini : Cond.initialized C ∈ GW)
    (hK : va_K D classes (tysOf k) s) (hP : va_P D classes ws H) (hD : va_D A ws) (hS : va_S A H0 H locs) (hA : ∀ q, H0.size ≤ q → A q) (hc : classes[ci]? = some (C, T, N)) {fs : List Value} (hfs : ∀ j, j < N → defaultValue (ty j) = vp_V fs j) (hcells : cells + 1 ≤ R.cells) (hslots : slots + N ≤ R.slots) (hdg : decode cc pc = .ok (.new index, 3))
    (kk : ∀ (q : Nat) (H1 : Heap), va_P D classes ((q, .inr (ci, fs)) :: ws) H1 → va_D A ((q, .inr (ci, fs)) :: ws) → va_S A H0 H1 locs → W p l e R s m args below meth c H1 locs (cells + 1) (slots + N) Q (F0 m (pc + 3) ls (.ref q :: rest))) : W p l e R s m args below meth c H locs cells slots Q (F0 m pc ls rest) :=
  va_new hx hb hG hin ty hty hown (hG _ hcl) (hG _ hinst) (hG _ hini) hK hP hD hS hA hc hfs hcells hslots hdg (fun q H1 h1 h2 h3 => kk q H1 (wl_Pf h1) (wl_Df h2) h3)
end ArrRows
end
section
set_option maxHeartbeats 4000000 in
set_option maxRecDepth 100000 in
theorem c_J_max (l : Launch) (a b : Int) (ha : In32 a) (hb9 : In32 b) : PuM l y_J_max { frames := 0, cells := 0, slots := 0, locals := 0 } [.int (iI (a)), .int (iI (b))] (fun v => v = some (.int (iI (max a b)))) := by
  refine ex_ofW (cc := b_J_max) (maxL := 2) (ret := (some .int)) (hh := []) (by decide +kernel) (Or.inl ⟨g_254, rfl⟩) ?_
  intro p9 e9 s m9 args9 below9 meth9 c9 s9 B9 hml htab hv
  obtain rfl := hv
  have hx := B9.exec
  have hb := B9.bytes
  have hr := B9.returns
  have hG := atoms_spec (ws := GW) B9.pre
  have hown : s.vm.findClass "java/lang/Math" = some m9.cls := findClass_of_methodNamed B9.named
  have hlocks := B9.notSynchronized
  have hl := lv_entry ([.int (iI (a)), .int (iI (b))]) (n := 2) (Nat.le_of_ble_eq_true rfl)
  rw [lg_entry_eq]
  generalize (lg_sl ([.int (iI (a)), .int (iI (b))]) ++ List.replicate (2 - (lg_sl ([.int (iI (a)), .int (iI (b))])).length) Slot.unset).toArray = ls at hl ⊢
  have hl : lv_has ls 2 [(0, .int (iI (a))), (1, .int (iI (b)))] := hl
  refine lv_iload_n hx hb d_J_max_0 rfl (lv_at hl 0 rfl) ?_
  refine lv_iload_n hx hb d_J_max_1 rfl (lv_at hl 1 rfl) ?_
  refine ri_icmp_lt (tgt := 9) hx hb d_J_max_2 (by decide) (by omega) (by omega) (fun c2 => ?_) (fun c2 => ?_)
  · refine lv_iload_n hx hb d_J_max_9 rfl (lv_at hl 1 rfl) ?_
    exact re_i hx hb hr hlocks (fun t ht hW => ⟨by rw [show max a b = b by omega], ht⟩) (fun z hz => nomatch hz) (Nat.le_refl _) (Nat.le_refl _) d_J_max_10
  · refine lv_iload_n hx hb d_J_max_5 rfl (lv_at hl 0 rfl) ?_
    refine lv_goto (tgt := 10) hx hb d_J_max_6 (by decide) ?_
    exact re_i hx hb hr hlocks (fun t ht hW => ⟨by rw [show max a b = a by omega], ht⟩) (fun z hz => nomatch hz) (Nat.le_refl _) (Nat.le_refl _) d_J_max_10

set_option maxHeartbeats 4000000 in
set_option maxRecDepth 100000 in
theorem c_J_min (l : Launch) (a b : Int) (ha : In32 a) (hb9 : In32 b) : PuM l y_J_min { frames := 0, cells := 0, slots := 0, locals := 0 } [.int (iI (a)), .int (iI (b))] (fun v => v = some (.int (iI (min a b)))) := by
  refine ex_ofW (cc := b_J_min) (maxL := 2) (ret := (some .int)) (hh := []) (by decide +kernel) (Or.inl ⟨g_251, rfl⟩) ?_
  intro p9 e9 s m9 args9 below9 meth9 c9 s9 B9 hml htab hv
  obtain rfl := hv
  have hx := B9.exec
  have hb := B9.bytes
  have hr := B9.returns
  have hG := atoms_spec (ws := GW) B9.pre
  have hown : s.vm.findClass "java/lang/Math" = some m9.cls := findClass_of_methodNamed B9.named
  have hlocks := B9.notSynchronized
  have hl := lv_entry ([.int (iI (a)), .int (iI (b))]) (n := 2) (Nat.le_of_ble_eq_true rfl)
  rw [lg_entry_eq]
  generalize (lg_sl ([.int (iI (a)), .int (iI (b))]) ++ List.replicate (2 - (lg_sl ([.int (iI (a)), .int (iI (b))])).length) Slot.unset).toArray = ls at hl ⊢
  have hl : lv_has ls 2 [(0, .int (iI (a))), (1, .int (iI (b)))] := hl
  refine lv_iload_n hx hb d_J_min_0 rfl (lv_at hl 0 rfl) ?_
  refine lv_iload_n hx hb d_J_min_1 rfl (lv_at hl 1 rfl) ?_
  refine ri_icmp_gt (tgt := 9) hx hb d_J_min_2 (by decide) (by omega) (by omega) (fun c2 => ?_) (fun c2 => ?_)
  · refine lv_iload_n hx hb d_J_min_9 rfl (lv_at hl 1 rfl) ?_
    exact re_i hx hb hr hlocks (fun t ht hW => ⟨by rw [show min a b = b by omega], ht⟩) (fun z hz => nomatch hz) (Nat.le_refl _) (Nat.le_refl _) d_J_min_10
  · refine lv_iload_n hx hb d_J_min_5 rfl (lv_at hl 0 rfl) ?_
    refine lv_goto (tgt := 10) hx hb d_J_min_6 (by decide) ?_
    exact re_i hx hb hr hlocks (fun t ht hW => ⟨by rw [show min a b = a by omega], ht⟩) (fun z hz => nomatch hz) (Nat.le_refl _) (Nat.le_refl _) d_J_min_10

set_option maxHeartbeats 4000000 in
set_option maxRecDepth 100000 in
theorem c_J_abs (l : Launch) (a : Int) (ha : In32 a) : PuM l y_J_abs { frames := 0, cells := 0, slots := 0, locals := 0 } [.int (iI (a))] (fun v => v = some (.int (iI (a.natAbs : Int)))) := by
  refine ex_ofW (cc := b_J_abs) (maxL := 1) (ret := (some .int)) (hh := []) (by decide +kernel) (Or.inl ⟨g_388, rfl⟩) ?_
  intro p9 e9 s m9 args9 below9 meth9 c9 s9 B9 hml htab hv
  obtain rfl := hv
  have hx := B9.exec
  have hb := B9.bytes
  have hr := B9.returns
  have hG := atoms_spec (ws := GW) B9.pre
  have hown : s.vm.findClass "java/lang/Math" = some m9.cls := findClass_of_methodNamed B9.named
  have hlocks := B9.notSynchronized
  have hl := lv_entry ([.int (iI (a))]) (n := 1) (Nat.le_of_ble_eq_true rfl)
  rw [lg_entry_eq]
  generalize (lg_sl ([.int (iI (a))]) ++ List.replicate (1 - (lg_sl ([.int (iI (a))])).length) Slot.unset).toArray = ls at hl ⊢
  have hl : lv_has ls 1 [(0, .int (iI (a)))] := hl
  refine lv_iload_n hx hb d_J_abs_0 rfl (lv_at hl 0 rfl) ?_
  refine ri_if_ge (tgt := 9) hx hb d_J_abs_1 (by decide) (by omega) (fun c1 => ?_) (fun c1 => ?_)
  · refine lv_iload_n hx hb d_J_abs_9 rfl (lv_at hl 0 rfl) ?_
    exact re_i hx hb hr hlocks (fun t ht hW => ⟨by rw [show (a.natAbs : Int) = a by omega], ht⟩) (fun z hz => nomatch hz) (Nat.le_refl _) (Nat.le_refl _) d_J_abs_10
  · refine lv_iload_n hx hb d_J_abs_4 rfl (lv_at hl 0 rfl) ?_
    refine ri_ineg hx hb d_J_abs_5 ?_
    refine lv_goto (tgt := 10) hx hb d_J_abs_6 (by decide) ?_
    exact re_i hx hb hr hlocks (fun t ht hW => ⟨by rw [show (a.natAbs : Int) = -a by omega], ht⟩) (fun z hz => nomatch hz) (Nat.le_refl _) (Nat.le_refl _) d_J_abs_10

set_option maxHeartbeats 4000000 in
set_option maxRecDepth 100000 in
theorem c_J_absL (l : Launch) (a : Int) (ha : In64 a) : PuM l y_J_abs_JJ { frames := 0, cells := 0, slots := 0, locals := 0 } [.long (jJ (a))] (fun v => v = some (.long (jJ (a.natAbs : Int)))) := by
  refine ex_ofW (cc := b_J_abs_JJ) (maxL := 2) (ret := (some .long)) (hh := []) (by decide +kernel) (Or.inl ⟨g_554, rfl⟩) ?_
  intro p9 e9 s m9 args9 below9 meth9 c9 s9 B9 hml htab hv
  obtain rfl := hv
  have hx := B9.exec
  have hb := B9.bytes
  have hr := B9.returns
  have hG := atoms_spec (ws := GW) B9.pre
  have hown : s.vm.findClass "java/lang/Math" = some m9.cls := findClass_of_methodNamed B9.named
  have hlocks := B9.notSynchronized
  have hl := lv_entry ([.long (jJ (a))]) (n := 2) (Nat.le_of_ble_eq_true rfl)
  rw [lg_entry_eq]
  generalize (lg_sl ([.long (jJ (a))]) ++ List.replicate (2 - (lg_sl ([.long (jJ (a))])).length) Slot.unset).toArray = ls at hl ⊢
  have hl : lv_has ls 2 [(0, .long (jJ (a)))] := hl
  refine lv_lload_n hx hb d_J_abs_JJ_0 rfl (lv_at hl 0 rfl) ?_
  refine ri_lconst (z := 0) hx hb d_J_abs_JJ_1 rfl ?_
  refine ri_lc_ge (tgt := 11) hx hb d_J_abs_JJ_2 d_J_abs_JJ_3 (by decide) (by omega) (by omega) (fun c2 => ?_) (fun c2 => ?_)
  · refine lv_lload_n hx hb d_J_abs_JJ_11 rfl (lv_at hl 0 rfl) ?_
    exact re_l hx hb hr hlocks (fun t ht hW => ⟨by rw [show (a.natAbs : Int) = a by omega], ht⟩) (fun z hz => nomatch hz) (Nat.le_refl _) (Nat.le_refl _) d_J_abs_JJ_12
  · refine lv_lload_n hx hb d_J_abs_JJ_6 rfl (lv_at hl 0 rfl) ?_
    refine ri_lneg hx hb d_J_abs_JJ_7 ?_
    refine lv_goto (tgt := 12) hx hb d_J_abs_JJ_8 (by decide) ?_
    exact re_l hx hb hr hlocks (fun t ht hW => ⟨by rw [show (a.natAbs : Int) = -a by omega], ht⟩) (fun z hz => nomatch hz) (Nat.le_refl _) (Nat.le_refl _) d_J_abs_JJ_12

set_option maxHeartbeats 4000000 in
set_option maxRecDepth 100000 in
theorem c_F_squareFar (l : Launch) (a b : Int) : PuM l y_F_squareFar { frames := 0, cells := 0, slots := 0, locals := 0 } [.int (iI (a)), .int (iI (b))] (fun v => v = some (.int (iI (a * a + b * b)))) := by
  refine ex_ofW (cc := b_F_squareFar) (maxL := 2) (ret := (some .int)) (hh := []) (by decide +kernel) (Or.inl ⟨g_241, rfl⟩) ?_
  intro p9 e9 s m9 args9 below9 meth9 c9 s9 B9 hml htab hv
  obtain rfl := hv
  have hx := B9.exec
  have hb := B9.bytes
  have hr := B9.returns
  have hG := atoms_spec (ws := GW) B9.pre
  have hown : s.vm.findClass "LathePieces$Profile" = some m9.cls := findClass_of_methodNamed B9.named
  have hlocks := B9.notSynchronized
  have hl := lv_entry ([.int (iI (a)), .int (iI (b))]) (n := 2) (Nat.le_of_ble_eq_true rfl)
  rw [lg_entry_eq]
  generalize (lg_sl ([.int (iI (a)), .int (iI (b))]) ++ List.replicate (2 - (lg_sl ([.int (iI (a)), .int (iI (b))])).length) Slot.unset).toArray = ls at hl ⊢
  have hl : lv_has ls 2 [(0, .int (iI (a))), (1, .int (iI (b)))] := hl
  refine lv_iload_n hx hb d_F_squareFar_0 rfl (lv_at hl 0 rfl) ?_
  refine lv_iload_n hx hb d_F_squareFar_1 rfl (lv_at hl 0 rfl) ?_
  refine ri_imul hx hb d_F_squareFar_2 ?_
  refine lv_iload_n hx hb d_F_squareFar_3 rfl (lv_at hl 1 rfl) ?_
  refine lv_iload_n hx hb d_F_squareFar_4 rfl (lv_at hl 1 rfl) ?_
  refine ri_imul hx hb d_F_squareFar_5 ?_
  refine ri_iadd hx hb d_F_squareFar_6 ?_
  exact re_i hx hb hr hlocks (fun t ht hW => ⟨rfl, ht⟩) (fun z hz => nomatch hz) (Nat.le_refl _) (Nat.le_refl _) d_F_squareFar_7

set_option maxHeartbeats 4000000 in
set_option maxRecDepth 100000 in
theorem c_M_square (l : Launch) (x r u w : Int) : PuM l y_M_square { frames := 0, cells := 0, slots := 0, locals := 0 } [.int (iI (x)), .int (iI (r)), .int (iI (u)), .int (iI (w))] (fun v => v = some (.int (iI ((x - u) * (x - u) + (r - w) * (r - w))))) := by
  refine ex_ofW (cc := b_M_square) (maxL := 4) (ret := (some .int)) (hh := []) (by decide +kernel) (Or.inl ⟨g_747, rfl⟩) ?_
  intro p9 e9 s m9 args9 below9 meth9 c9 s9 B9 hml htab hv
  obtain rfl := hv
  have hx := B9.exec
  have hb := B9.bytes
  have hr := B9.returns
  have hG := atoms_spec (ws := GW) B9.pre
  have hown : s.vm.findClass "LathePiecesModel" = some m9.cls := findClass_of_methodNamed B9.named
  have hlocks := B9.notSynchronized
  have hl := lv_entry ([.int (iI (x)), .int (iI (r)), .int (iI (u)), .int (iI (w))]) (n := 4) (Nat.le_of_ble_eq_true rfl)
  rw [lg_entry_eq]
  generalize (lg_sl ([.int (iI (x)), .int (iI (r)), .int (iI (u)), .int (iI (w))]) ++ List.replicate (4 - (lg_sl ([.int (iI (x)), .int (iI (r)), .int (iI (u)), .int (iI (w))])).length) Slot.unset).toArray = ls at hl ⊢
  have hl : lv_has ls 4 [(0, .int (iI (x))), (1, .int (iI (r))), (2, .int (iI (u))), (3, .int (iI (w)))] := hl
  refine lv_iload_n hx hb d_M_square_0 rfl (lv_at hl 0 rfl) ?_
  refine lv_iload_n hx hb d_M_square_1 rfl (lv_at hl 2 rfl) ?_
  refine ri_isub hx hb d_M_square_2 ?_
  refine lv_iload_n hx hb d_M_square_3 rfl (lv_at hl 0 rfl) ?_
  refine lv_iload_n hx hb d_M_square_4 rfl (lv_at hl 2 rfl) ?_
  refine ri_isub hx hb d_M_square_5 ?_
  refine ri_imul hx hb d_M_square_6 ?_
  refine lv_iload_n hx hb d_M_square_7 rfl (lv_at hl 1 rfl) ?_
  refine lv_iload_n hx hb d_M_square_8 rfl (lv_at hl 3 rfl) ?_
  refine ri_isub hx hb d_M_square_9 ?_
  refine lv_iload_n hx hb d_M_square_10 rfl (lv_at hl 1 rfl) ?_
  refine lv_iload_n hx hb d_M_square_11 rfl (lv_at hl 3 rfl) ?_
  refine ri_isub hx hb d_M_square_12 ?_
  refine ri_imul hx hb d_M_square_13 ?_
  refine ri_iadd hx hb d_M_square_14 ?_
  exact re_i hx hb hr hlocks (fun t ht hW => ⟨rfl, ht⟩) (fun z hz => nomatch hz) (Nat.le_refl _) (Nat.le_refl _) d_M_square_15

set_option maxHeartbeats 4000000 in
set_option maxRecDepth 100000 in
theorem c_M_in (l : Launch) (v0 f t : Int) (hv0 : In64 v0) (hf : In64 f) (ht9 : In64 t) : PuM l y_M_in { frames := 0, cells := 0, slots := 0, locals := 0 } [.long (jJ (v0)), .long (jJ (f)), .long (jJ (t))] (fun v => v = some (.int (iI (if f ≤ v0 ∧ v0 ≤ t then 1 else 0)))) := by
  refine ex_ofW (cc := b_M_in) (maxL := 6) (ret := (some .boolean)) (hh := []) (by decide +kernel) (Or.inl ⟨g_715, rfl⟩) ?_
  intro p9 e9 s m9 args9 below9 meth9 c9 s9 B9 hml htab hv
  obtain rfl := hv
  have hx := B9.exec
  have hb := B9.bytes
  have hr := B9.returns
  have hG := atoms_spec (ws := GW) B9.pre
  have hown : s.vm.findClass "LathePiecesModel" = some m9.cls := findClass_of_methodNamed B9.named
  have hlocks := B9.notSynchronized
  have hl := lv_entry ([.long (jJ (v0)), .long (jJ (f)), .long (jJ (t))]) (n := 6) (Nat.le_of_ble_eq_true rfl)
  rw [lg_entry_eq]
  generalize (lg_sl ([.long (jJ (v0)), .long (jJ (f)), .long (jJ (t))]) ++ List.replicate (6 - (lg_sl ([.long (jJ (v0)), .long (jJ (f)), .long (jJ (t))])).length) Slot.unset).toArray = ls at hl ⊢
  have hl : lv_has ls 6 [(0, .long (jJ (v0))), (2, .long (jJ (f))), (4, .long (jJ (t)))] := hl
  refine lv_lload_n hx hb d_M_in_0 rfl (lv_at hl 0 rfl) ?_
  refine lv_lload_n hx hb d_M_in_1 rfl (lv_at hl 1 rfl) ?_
  refine ri_lc_lt (tgt := 17) hx hb d_M_in_2 d_M_in_3 (by decide) (by omega) (by omega) (fun c2 => ?_) (fun c2 => ?_)
  · refine ri_iconst hx hb d_M_in_17 ?_
    exact re_z hx hb hr hlocks (Or.inl rfl) (fun t ht hW => ⟨by rw [if_neg (by omega)], ht⟩) (fun z hz => nomatch hz) (Nat.le_refl _) (Nat.le_refl _) d_M_in_18
  · refine lv_lload_n hx hb d_M_in_6 rfl (lv_at hl 0 rfl) ?_
    refine lv_lload hx hb d_M_in_7 (lv_at hl 2 rfl) ?_
    refine ri_lc_gt (tgt := 17) hx hb d_M_in_9 d_M_in_10 (by decide) (by omega) (by omega) (fun c9 => ?_) (fun c9 => ?_)
    · refine ri_iconst hx hb d_M_in_17 ?_
      exact re_z hx hb hr hlocks (Or.inl rfl) (fun t ht hW => ⟨by rw [if_neg (by omega)], ht⟩) (fun z hz => nomatch hz) (Nat.le_refl _) (Nat.le_refl _) d_M_in_18
    · refine ri_iconst hx hb d_M_in_13 ?_
      refine lv_goto (tgt := 18) hx hb d_M_in_14 (by decide) ?_
      exact re_z hx hb hr hlocks (Or.inr rfl) (fun t ht hW => ⟨by rw [if_pos (by omega)], ht⟩) (fun z hz => nomatch hz) (Nat.le_refl _) (Nat.le_refl _) d_M_in_18
end
section
/-! Whole numbers: roots, divisors. -/
theorem sq_mono {a b : Int} (ha : 0 ≤ a) (h : a ≤ b) : a * a ≤ b * b := Int.mul_le_mul h h ha (Int.le_trans ha h)
theorem sq_lt {a b : Int} (hb : 0 ≤ b) (h : a * a < b * b) : a < b := Int.not_le.mp fun q => absurd (sq_mono hb q) (Int.not_le.mpr h)
theorem sq_uni {a b n : Int} (ha : 0 ≤ a) (hb : 0 ≤ b) (h1 : a * a ≤ n) (h2 : n < (a + 1) * (a + 1)) (h3 : b * b ≤ n) (h4 : n < (b + 1) * (b + 1)) : a = b := by
  have q1 : a < b + 1 := sq_lt (by omega) (Int.lt_of_le_of_lt h1 h4)
  have q2 : b < a + 1 := sq_lt (by omega) (Int.lt_of_le_of_lt h3 h2)
  omega
/-- the root of n: the greatest whole number whose square isn't above it -/
noncomputable def isq (n : Int) : Int := Classical.epsilon fun r : Int => 0 ≤ r ∧ r * r ≤ n ∧ n < (r + 1) * (r + 1)
theorem isq_eq {r n : Int} (h0 : 0 ≤ r) (h1 : r * r ≤ n) (h2 : n < (r + 1) * (r + 1)) : isq n = r := by
  have h := Classical.epsilon_spec (p := fun r : Int => 0 ≤ r ∧ r * r ≤ n ∧ n < (r + 1) * (r + 1)) ⟨r, h0, h1, h2⟩
  exact sq_uni h.1 h0 h.2.1 h.2.2 h1 h2
theorem isq_ex (k : Nat) : ∃ r : Int, 0 ≤ r ∧ r * r ≤ k ∧ (k : Int) < (r + 1) * (r + 1) := by
  induction k with
  | zero => exact ⟨0, by decide, by decide, by decide⟩
  | succ k ih =>
    obtain ⟨r, h0, h1, h2⟩ := ih
    by_cases h : ((k + 1 : Nat) : Int) < (r + 1) * (r + 1)
    · exact ⟨r, h0, by omega, h⟩
    · refine ⟨r + 1, by omega, by omega, ?_⟩
      have e1 : (r + 1 + 1) * (r + 1 + 1) = (r + 1) * (r + 1) + 2 * r + 3 := by simp only [Int.add_mul, Int.mul_add]; omega
      omega
theorem isq_spec {n : Int} (h : 0 ≤ n) : 0 ≤ isq n ∧ isq n * isq n ≤ n ∧ n < (isq n + 1) * (isq n + 1) := by
  obtain ⟨r, h0, h1, h2⟩ := isq_ex n.toNat
  rw [Int.toNat_of_nonneg h] at h1 h2
  rw [isq_eq h0 h1 h2]
  exact ⟨h0, h1, h2⟩
theorem isq_le {n b : Int} (h : 0 ≤ n) (hb : 0 ≤ b) (hn : n < (b + 1) * (b + 1)) : isq n ≤ b := by
  have h1 := isq_spec h
  have := sq_lt (a := isq n) (b := b + 1) (by omega) (Int.lt_of_le_of_lt h1.2.1 hn)
  omega
/-- Euclid's steps -/
theorem gcd_step (a b : Nat) : Nat.gcd a b = Nat.gcd b (a % b) := by rw [Nat.gcd_comm a b, Nat.gcd_rec b a, Nat.gcd_comm]
theorem tmod_nat (a b : Nat) : ((a : Int).tmod b) = ((a % b : Nat) : Int) := by rw [Int.ofNat_tmod]
theorem tdiv_nat (a b : Nat) : ((a : Int).tdiv b) = ((a / b : Nat) : Int) := by rw [Int.ofNat_tdiv]
/-- two steps halve the smaller number -/
theorem mod_half {a b : Nat} (h : b ≤ a) (hb : 0 < b) : a % b ≤ a / 2 := by
  have h1 := Nat.mod_lt a hb
  rcases Nat.lt_or_ge (a / 2) b with q | q
  · have h2 : a % b = a - b := by
      rw [Nat.mod_eq_sub_mod h, Nat.mod_eq_of_lt (by omega)]
    omega
  · omega
end
section
theorem sh_pow : ∀ k : Fin 12, iI 1 <<< (iI ((k.val : Nat) : Int) &&& 31) = iI (2 ^ k.val) := by decide
set_option maxHeartbeats 4000000 in
set_option maxRecDepth 100000 in
/-- the root of n -/
theorem c_C_wholeRoot (l : Launch) (n : Int) (hn : 0 ≤ n ∧ n < 16777216) : PuM l y_C_wholeRoot { frames := 0, cells := 0, slots := 0, locals := 0 } [.int (iI (n))] (fun v => v = some (.int (iI (isq n)))) := by
  refine ex_ofW (cc := b_C_wholeRoot) (maxL := 4) (ret := (some .int)) (hh := []) (by decide +kernel) (Or.inl ⟨g_248, rfl⟩) ?_
  intro p9 e9 s m9 args9 below9 meth9 c9 s9 B9 hml htab hv
  obtain rfl := hv
  have hx := B9.exec
  have hb := B9.bytes
  have hr := B9.returns
  have hG := atoms_spec (ws := GW) B9.pre
  have hown : s.vm.findClass "LathePieces" = some m9.cls := findClass_of_methodNamed B9.named
  have hlocks := B9.notSynchronized
  have hl := lv_entry ([.int (iI (n))]) (n := 4) (Nat.le_of_ble_eq_true rfl)
  rw [lg_entry_eq]
  generalize (lg_sl ([.int (iI (n))]) ++ List.replicate (4 - (lg_sl ([.int (iI (n))])).length) Slot.unset).toArray = ls at hl ⊢
  replace hl : lv_has ls 4 [(0, .int (iI (n)))] := hl
  refine ri_iconst hx hb d_C_wholeRoot_0 ?_
  refine lv_istore_n (lv' := [(1, .int (iI (0))), (0, .int (iI (n)))]) hx hb d_C_wholeRoot_1 rfl hl (by decide) rfl (fun ls hl => ?_)
  refine ri_bipush hx hb d_C_wholeRoot_2 (by decide) ?_
  refine lv_istore_n (lv' := [(2, .int (iI (11))), (1, .int (iI (0))), (0, .int (iI (n)))]) hx hb d_C_wholeRoot_4 rfl hl (by decide) rfl (fun ls hl => ?_)
  obtain ⟨κ, ρ, β, hinv, hl1⟩ : ∃ (κ : Nat) (ρ β : Int), (κ ≤ 12 ∧ β = (κ : Int) - 1 ∧ 0 ≤ ρ ∧ ρ + 2 ^ κ ≤ 4096 ∧ ρ * ρ ≤ n ∧ n < (ρ + 2 ^ κ) * (ρ + 2 ^ κ)) ∧ lv_has ls 4 [(0, .int (iI (n))), (1, .int (iI (ρ))), (2, .int (iI (β)))] := ⟨12, 0, 11, ⟨by omega, by omega, by omega, by omega, by omega, by omega⟩, lv_sub hl [2, 1, 0] rfl⟩
  clear hl
  have hl := hl1
  clear hl1
  induction κ generalizing ρ β ls with
  | zero =>
    obtain ⟨h1, h2, h3, h4, h5, h6⟩ := hinv
    refine lv_iload_n hx hb d_C_wholeRoot_5 rfl (lv_at hl 2 rfl) ?_
    refine ri_if_lt (tgt := 30) hx hb d_C_wholeRoot_6 (by decide) (by omega) (fun c6 => ?_) (fun c6 => ?_)
    · refine lv_iload_n hx hb d_C_wholeRoot_30 rfl (lv_at hl 1 rfl) ?_
      exact re_i hx hb hr hlocks (fun t ht hW => ⟨by rw [isq_eq h3 h5 h6], ht⟩) (fun z hz => nomatch hz) (Nat.le_refl _) (Nat.le_refl _) d_C_wholeRoot_31
    · exact absurd c6 (by omega)
  | succ κ ih =>
    obtain ⟨h1, h2, h3, h4, h5, h6⟩ := hinv
    have hβ : β = (κ : Int) := by omega
    subst hβ
    have e2 : (2 : Int) ^ (κ + 1) = 2 * 2 ^ κ := by rw [Int.pow_succ]; omega
    have e3 : (0 : Int) < 2 ^ κ := Int.pow_pos (by decide)
    rw [e2] at h4 h6
    refine lv_iload_n hx hb d_C_wholeRoot_5 rfl (lv_at hl 2 rfl) ?_
    refine ri_if_lt (tgt := 30) hx hb d_C_wholeRoot_6 (by decide) (by omega) (fun c6 => ?_) (fun c6 => ?_)
    · exact absurd c6 (by omega)
    · refine lv_iload_n hx hb d_C_wholeRoot_9 rfl (lv_at hl 1 rfl) ?_
      refine ri_iconst hx hb d_C_wholeRoot_10 ?_
      refine lv_iload_n hx hb d_C_wholeRoot_11 rfl (lv_at hl 2 rfl) ?_
      refine lv_ishl hx hb d_C_wholeRoot_12 ?_
      refine tp_i (y := iI (2 ^ κ)) (sh_pow ⟨κ, by omega⟩) ?_
      refine ri_iadd hx hb d_C_wholeRoot_13 ?_
      refine lv_istore_n (lv' := [(3, .int (iI ((ρ) + (2 ^ κ)))), (0, .int (iI (n))), (1, .int (iI (ρ))), (2, .int (iI ((κ : Int))))]) hx hb d_C_wholeRoot_14 rfl hl (by decide) rfl (fun ls hl => ?_)
      have e4 : (ρ + 2 ^ κ) * (ρ + 2 ^ κ) ≤ 4096 * 4096 := sq_mono (by omega) (by omega)
      have e5 : 0 ≤ (ρ + 2 ^ κ) * (ρ + 2 ^ κ) := Int.mul_nonneg (by omega) (by omega)
      refine lv_iload_n hx hb d_C_wholeRoot_15 rfl (lv_at hl 0 rfl) ?_
      refine lv_iload_n hx hb d_C_wholeRoot_16 rfl (lv_at hl 0 rfl) ?_
      refine ri_imul hx hb d_C_wholeRoot_17 ?_
      refine lv_iload_n hx hb d_C_wholeRoot_18 rfl (lv_at hl 1 rfl) ?_
      refine ri_icmp_gt (tgt := 24) hx hb d_C_wholeRoot_19 (by decide) (by omega) (by omega) (fun c19 => ?_) (fun c19 => ?_)
      · refine lv_iinc (v := iI ((κ : Int) + (-1))) (lv' := [(2, .int (iI ((κ : Int) + (-1)))), (3, .int (iI ((ρ) + (2 ^ κ)))), (0, .int (iI (n))), (1, .int (iI (ρ)))]) hx hb d_C_wholeRoot_24 hl (k := 3) rfl (ii_add _ _) (by decide) rfl (fun ls hl => ?_)
        refine lv_goto (tgt := 5) hx hb d_C_wholeRoot_27 (by decide) ?_
        exact ih ls (ρ) (κ + -1) ⟨by omega, by omega, h3, by omega, h5, by omega⟩ (lv_sub hl [2, 3, 0] rfl)
      · refine lv_iload_n hx hb d_C_wholeRoot_22 rfl (lv_at hl 0 rfl) ?_
        refine lv_istore_n (lv' := [(1, .int (iI ((ρ) + (2 ^ κ)))), (3, .int (iI ((ρ) + (2 ^ κ)))), (0, .int (iI (n))), (2, .int (iI ((κ : Int))))]) hx hb d_C_wholeRoot_23 rfl hl (by decide) rfl (fun ls hl => ?_)
        refine lv_iinc (v := iI ((κ : Int) + (-1))) (lv' := [(2, .int (iI ((κ : Int) + (-1)))), (1, .int (iI ((ρ) + (2 ^ κ)))), (3, .int (iI ((ρ) + (2 ^ κ)))), (0, .int (iI (n)))]) hx hb d_C_wholeRoot_24 hl (k := 3) rfl (ii_add _ _) (by decide) rfl (fun ls hl => ?_)
        refine lv_goto (tgt := 5) hx hb d_C_wholeRoot_27 (by decide) ?_
        exact ih ls (ρ + 2 ^ κ) (κ + -1) ⟨by omega, by omega, by omega, by omega, by omega, by rw [show ρ + 2 ^ κ + 2 ^ κ = ρ + 2 * 2 ^ κ by omega]; exact h6⟩ (lv_sub hl [3, 1, 0] rfl)

set_option maxHeartbeats 4000000 in
set_option maxRecDepth 100000 in
/-- the root of n -/
theorem c_M_root (l : Launch) (n : Int) (hn : 0 ≤ n ∧ n < 16777216) : PuM l y_M_root { frames := 0, cells := 0, slots := 0, locals := 0 } [.int (iI (n))] (fun v => v = some (.int (iI (isq n)))) := by
  refine ex_ofW (cc := b_M_root) (maxL := 2) (ret := (some .int)) (hh := []) (by decide +kernel) (Or.inl ⟨g_758, rfl⟩) ?_
  intro p9 e9 s m9 args9 below9 meth9 c9 s9 B9 hml htab hv
  obtain rfl := hv
  have hx := B9.exec
  have hb := B9.bytes
  have hr := B9.returns
  have hG := atoms_spec (ws := GW) B9.pre
  have hown : s.vm.findClass "LathePiecesModel" = some m9.cls := findClass_of_methodNamed B9.named
  have hlocks := B9.notSynchronized
  have hl := lv_entry ([.int (iI (n))]) (n := 2) (Nat.le_of_ble_eq_true rfl)
  rw [lg_entry_eq]
  generalize (lg_sl ([.int (iI (n))]) ++ List.replicate (2 - (lg_sl ([.int (iI (n))])).length) Slot.unset).toArray = ls at hl ⊢
  replace hl : lv_has ls 2 [(0, .int (iI (n)))] := hl
  refine ri_iconst hx hb d_M_root_0 ?_
  refine lv_istore_n (lv' := [(1, .int (iI (0))), (0, .int (iI (n)))]) hx hb d_M_root_1 rfl hl (by decide) rfl (fun ls hl => ?_)
  obtain ⟨κ, ρ, hinv, hl1⟩ : ∃ (κ : Nat) (ρ : Int), (0 ≤ ρ ∧ ρ * ρ ≤ n ∧ ρ ≤ 4096 ∧ ρ + κ = 4097) ∧ lv_has ls 2 [(0, .int (iI (n))), (1, .int (iI (ρ)))] := ⟨4097, 0, ⟨by omega, by omega, by omega, by omega⟩, lv_sub hl [1, 0] rfl⟩
  clear hl
  have hl := hl1
  clear hl1
  induction κ generalizing ρ ls with
  | zero =>
    obtain ⟨h1, h2, h3, h4⟩ := hinv
    exact absurd h4 (by omega)
  | succ κ ih =>
    obtain ⟨h1, h2, h3, h4⟩ := hinv
    have e4 : (ρ + 1) * (ρ + 1) ≤ 4097 * 4097 := sq_mono (by omega) (by omega)
    have e5 : 0 ≤ (ρ + 1) * (ρ + 1) := Int.mul_nonneg (by omega) (by omega)
    refine lv_iload_n hx hb d_M_root_2 rfl (lv_at hl 1 rfl) ?_
    refine ri_iconst hx hb d_M_root_3 ?_
    refine ri_iadd hx hb d_M_root_4 ?_
    refine lv_iload_n hx hb d_M_root_5 rfl (lv_at hl 1 rfl) ?_
    refine ri_iconst hx hb d_M_root_6 ?_
    refine ri_iadd hx hb d_M_root_7 ?_
    refine ri_imul hx hb d_M_root_8 ?_
    refine lv_iload_n hx hb d_M_root_9 rfl (lv_at hl 0 rfl) ?_
    refine ri_icmp_gt (tgt := 19) hx hb d_M_root_10 (by decide) (by omega) (by omega) (fun c10 => ?_) (fun c10 => ?_)
    · refine lv_iload_n hx hb d_M_root_19 rfl (lv_at hl 1 rfl) ?_
      exact re_i hx hb hr hlocks (fun t ht hW => ⟨by rw [isq_eq h1 h2 c10], ht⟩) (fun z hz => nomatch hz) (Nat.le_refl _) (Nat.le_refl _) d_M_root_20
    · have e6 : ρ + 1 < 4096 := sq_lt (by decide) (by omega)
      refine lv_iinc (v := iI (ρ + 1)) (lv' := [(1, .int (iI (ρ + 1))), (0, .int (iI (n)))]) hx hb d_M_root_13 hl (k := 1) rfl (ii_add _ _) (by decide) rfl (fun ls hl => ?_)
      refine lv_goto (tgt := 2) hx hb d_M_root_16 (by decide) ?_
      exact ih ls (ρ + 1) ⟨by omega, by omega, by omega, by omega⟩ (lv_sub hl [1, 0] rfl)

theorem ediv_uni {a b q : Int} (hb : 0 < b) (h1 : q * b ≤ a) (h2 : a < q * b + b) : a / b = q := by
  have h3 : a / b < q + 1 := Int.ediv_lt_of_lt_mul hb (by rw [Int.add_mul]; omega)
  have h4 : q ≤ a / b := (Int.le_ediv_iff_mul_le hb).mpr h1
  omega
theorem tmod_neg {a b : Int} (ha : a ≤ 0) : a.tmod b ≤ 0 := by
  have h1 : (-a).tmod b = -(a.tmod b) := Int.neg_tmod a b
  have h2 := Int.tmod_nonneg (a := -a) b (by omega)
  omega
theorem tdiv_tmod (a b : Int) : a.tdiv b * b + a.tmod b = a := by rw [Int.tmod_def, Int.mul_comm b]; omega
theorem floor_a {a b : Int} (hb : 0 < b) (h : 0 ≤ a ∨ a.tdiv b * b = a) : a / b = a.tdiv b := by
  have h1 := tdiv_tmod a b
  have h2 := tmod_bounds (a := a) hb
  rcases h with h | h
  · have h3 := Int.tmod_nonneg (a := a) b h
    exact ediv_uni hb (by omega) (by omega)
  · exact ediv_uni hb (by omega) (by omega)
theorem floor_b {a b : Int} (hb : 0 < b) (h : a < 0) (h9 : ¬ a.tdiv b * b = a) : a / b = a.tdiv b - 1 := by
  have h1 := tdiv_tmod a b
  have h2 := tmod_bounds (a := a) hb
  have h3 := tmod_neg (a := a) (b := b) (by omega)
  exact ediv_uni hb (by rw [Int.sub_mul]; omega) (by rw [Int.sub_mul]; omega)
theorem i32_neg (z : Int32) : z < 0 ↔ z.toBitVec.msb = true := by
  rw [Int32.lt_iff_toInt_lt, BitVec.msb_eq_toInt]
  simp
theorem xor_neg {x y : Int32} (hy : ¬ y < 0) : x ^^^ y < 0 ↔ x < 0 := by
  rw [i32_neg] at hy
  rw [i32_neg, i32_neg, Int32.toBitVec_xor, BitVec.msb_xor]
  simp [hy]
theorem xor_ge {a b : Int} (ha : In32 a) (hb : 0 < b ∧ b < 2147483648) : 0 ≤ iI a ^^^ iI b ↔ 0 ≤ a := by
  have h1 := xor_neg (x := iI a) (ii_nneg (z := b) ⟨by omega, hb.2⟩)
  rw [← Int32.not_lt, h1, show (0 : Int32) = iI 0 from rfl, ii_lt ha (by decide)]
  omega
set_option maxHeartbeats 4000000 in
set_option maxRecDepth 100000 in
/-- a by b, rounded down -/
theorem c_J_floorDiv (l : Launch) (a b : Int) (ha9 : -2147483648 < a ∧ a < 2147483648) (ha : In32 a) (hb9 : 0 < b ∧ b < 2147483648) : PuM l y_J_floorDiv { frames := 0, cells := 0, slots := 0, locals := 0 } [.int (iI (a)), .int (iI (b))] (fun v => v = some (.int (iI (a / b)))) := by
  refine ex_ofW (cc := b_J_floorDiv) (maxL := 3) (ret := (some .int)) (hh := []) (by decide +kernel) (Or.inl ⟨g_223, rfl⟩) ?_
  intro p9 e9 s m9 args9 below9 meth9 c9 s9 B9 hml htab hv
  obtain rfl := hv
  have hx := B9.exec
  have hb := B9.bytes
  have hr := B9.returns
  have hG := atoms_spec (ws := GW) B9.pre
  have hown : s.vm.findClass "java/lang/Math" = some m9.cls := findClass_of_methodNamed B9.named
  have hlocks := B9.notSynchronized
  have hl := lv_entry ([.int (iI (a)), .int (iI (b))]) (n := 3) (Nat.le_of_ble_eq_true rfl)
  rw [lg_entry_eq]
  generalize (lg_sl ([.int (iI (a)), .int (iI (b))]) ++ List.replicate (3 - (lg_sl ([.int (iI (a)), .int (iI (b))])).length) Slot.unset).toArray = ls at hl ⊢
  replace hl : lv_has ls 3 [(0, .int (iI (a))), (1, .int (iI (b)))] := hl
  refine lv_iload_n hx hb d_J_floorDiv_0 rfl (lv_at hl 0 rfl) ?_
  refine lv_iload_n hx hb d_J_floorDiv_1 rfl (lv_at hl 1 rfl) ?_
  refine ri_idiv hx hb d_J_floorDiv_2 (by omega) (by omega) (by omega) ?_
  refine lv_istore_n (lv' := [(2, .int (iI (Int.tdiv (a) (b)))), (0, .int (iI (a))), (1, .int (iI (b)))]) hx hb d_J_floorDiv_3 rfl hl (by decide) rfl (fun ls hl => ?_)
  refine lv_iload_n hx hb d_J_floorDiv_4 rfl (lv_at hl 1 rfl) ?_
  refine lv_iload_n hx hb d_J_floorDiv_5 rfl (lv_at hl 2 rfl) ?_
  refine lv_ixor hx hb d_J_floorDiv_6 ?_
  refine lv_if_ge (tgt := 21) hx hb d_J_floorDiv_7 (by decide) (fun c7 => ?_) (fun c7 => ?_)
  · refine lv_iload_n hx hb d_J_floorDiv_21 rfl (lv_at hl 0 rfl) ?_
    exact re_i hx hb hr hlocks (fun t ht hW => ⟨by rw [floor_a hb9.1 (Or.inl ((xor_ge ha hb9).mp c7))], ht⟩) (fun z hz => nomatch hz) (Nat.le_refl _) (Nat.le_refl _) d_J_floorDiv_22
  · have c8 : a < 0 := Int.not_le.mp fun q => c7 ((xor_ge ha hb9).mpr q)
    have c9 := tdiv_tmod a b
    have c10 := tmod_bounds (a := a) hb9.1
    have c12 := tmod_neg (a := a) (b := b) (by omega)
    have c11 := ii_tdiv_rg (a := a) (b := b) ha9
    refine lv_iload_n hx hb d_J_floorDiv_10 rfl (lv_at hl 0 rfl) ?_
    refine lv_iload_n hx hb d_J_floorDiv_11 rfl (lv_at hl 2 rfl) ?_
    refine ri_imul hx hb d_J_floorDiv_12 ?_
    refine lv_iload_n hx hb d_J_floorDiv_13 rfl (lv_at hl 1 rfl) ?_
    refine ri_icmp_eq (tgt := 21) hx hb d_J_floorDiv_14 (by decide) (by omega) (by omega) (fun c14 => ?_) (fun c14 => ?_)
    · refine lv_iload_n hx hb d_J_floorDiv_21 rfl (lv_at hl 0 rfl) ?_
      exact re_i hx hb hr hlocks (fun t ht hW => ⟨by rw [floor_a hb9.1 (Or.inr c14)], ht⟩) (fun z hz => nomatch hz) (Nat.le_refl _) (Nat.le_refl _) d_J_floorDiv_22
    · refine lv_iload_n hx hb d_J_floorDiv_17 rfl (lv_at hl 0 rfl) ?_
      refine ri_iconst hx hb d_J_floorDiv_18 ?_
      refine ri_isub hx hb d_J_floorDiv_19 ?_
      exact re_i hx hb hr hlocks (fun t ht hW => ⟨by rw [floor_b hb9.1 c8 c14], ht⟩) (fun z hz => nomatch hz) (Nat.le_refl _) (Nat.le_refl _) d_J_floorDiv_20

/-- one step of Euclid's way halves the product, or puts the greater number first -/
theorem eu_step {x y κ : Nat} (hy : 0 < y) (h : (y < x ∧ x * y < 2 ^ (κ + 1)) ∨ 2 * (x * y) < 2 ^ (κ + 1)) : x % y < y ∧ y * (x % y) < 2 ^ κ := by
  have h1 := Nat.mod_lt x hy
  refine ⟨h1, ?_⟩
  have e1 : 2 ^ (κ + 1) = 2 * 2 ^ κ := by rw [Nat.pow_succ]; omega
  rw [e1] at h
  rcases Nat.lt_or_ge x y with q | q
  · rw [Nat.mod_eq_of_lt q, Nat.mul_comm]
    rcases h with h | h
    · omega
    · omega
  · have h2 := mod_half q hy
    have h3 : 2 * (y * (x % y)) ≤ x * y := by
      have h4 : 2 * (x % y) ≤ x := by omega
      calc 2 * (y * (x % y)) = y * (2 * (x % y)) := by rw [Nat.mul_left_comm]
        _ ≤ y * x := Nat.mul_le_mul_left y h4
        _ = x * y := Nat.mul_comm y x
    rcases h with h | h
    · omega
    · omega
/-- above / below without a common divisor: its part 0 or 1 -/
def frP (a b part : Int) : Int := if part = 0 then a.tdiv (Int.gcd a b) else b.tdiv (Int.gcd a b)
set_option maxHeartbeats 4000000 in
set_option maxRecDepth 100000 in
/-- Euclid -/
theorem c_C_commonDivisor (l : Launch) (A B : Nat) (hA : 1 ≤ A ∧ A < 562949953421312) (hB : B < 562949953421312) (hAB : 2 * (A * B) < 2 ^ 100) : PuM l y_C_commonDivisor { frames := 0, cells := 0, slots := 0, locals := 0 } [.long (jJ ((A : Int))), .long (jJ ((B : Int)))] (fun v => v = some (.long (jJ (Nat.gcd A B : Nat)))) := by
  refine ex_ofW (cc := b_C_commonDivisor) (maxL := 7) (ret := (some .long)) (hh := []) (by decide +kernel) (Or.inl ⟨g_557, rfl⟩) ?_
  intro p9 e9 s m9 args9 below9 meth9 c9 s9 B9 hml htab hv
  obtain rfl := hv
  have hx := B9.exec
  have hb := B9.bytes
  have hr := B9.returns
  have hG := atoms_spec (ws := GW) B9.pre
  have hown : s.vm.findClass "LathePieces" = some m9.cls := findClass_of_methodNamed B9.named
  have hlocks := B9.notSynchronized
  have hl := lv_entry ([.long (jJ ((A : Int))), .long (jJ ((B : Int)))]) (n := 7) (Nat.le_of_ble_eq_true rfl)
  rw [lg_entry_eq]
  generalize (lg_sl ([.long (jJ ((A : Int))), .long (jJ ((B : Int)))]) ++ List.replicate (7 - (lg_sl ([.long (jJ ((A : Int))), .long (jJ ((B : Int)))])).length) Slot.unset).toArray = ls at hl ⊢
  replace hl : lv_has ls 7 [(0, .long (jJ ((A : Int)))), (2, .long (jJ ((B : Int))))] := hl
  refine ri_iconst hx hb d_C_commonDivisor_0 ?_
  refine lv_istore (lv' := [(4, .int (iI (0))), (0, .long (jJ ((A : Int)))), (2, .long (jJ ((B : Int))))]) hx hb d_C_commonDivisor_1 hl (by decide) rfl (fun ls hl => ?_)
  obtain ⟨κ, x, y, hinv, hl1⟩ : ∃ (κ : Nat) (x y : Nat), (κ ≤ 100 ∧ 1 ≤ x ∧ x < 562949953421312 ∧ y < 562949953421312 ∧ Nat.gcd x y = Nat.gcd A B ∧ ((y < x ∧ x * y < 2 ^ κ) ∨ 2 * (x * y) < 2 ^ κ)) ∧ lv_has ls 7 [(0, .long (jJ ((x : Int)))), (2, .long (jJ ((y : Int)))), (4, .int (iI (100 - (κ : Int))))] := ⟨100, A, B, ⟨by omega, hA.1, hA.2, hB, rfl, Or.inr hAB⟩, lv_sub hl [1, 2, 0] rfl⟩
  clear hl
  have hl := hl1
  clear hl1
  induction κ generalizing x y ls with
  | zero =>
    obtain ⟨h1, h2, h3, h4, h5, h6⟩ := hinv
    have hy : y = 0 := by
      have h7 : x * y < 1 := by omega
      rcases Nat.eq_zero_or_pos y with q | q
      · exact q
      · have h8 : 1 * 1 ≤ x * y := Nat.mul_le_mul h2 q
        omega
    subst hy
    rw [Nat.gcd_zero_right] at h5
    refine lv_iload hx hb d_C_commonDivisor_3 (lv_at hl 2 rfl) ?_
    refine ri_bipush hx hb d_C_commonDivisor_5 (by decide) ?_
    refine ri_icmp_ge (tgt := 32) hx hb d_C_commonDivisor_7 (by decide) (by omega) (by omega) (fun c7 => ?_) (fun c7 => ?_)
    · refine lv_lload_n hx hb d_C_commonDivisor_32 rfl (lv_at hl 0 rfl) ?_
      exact re_l hx hb hr hlocks (fun t ht hW => ⟨by rw [h5], ht⟩) (fun z hz => nomatch hz) (Nat.le_refl _) (Nat.le_refl _) d_C_commonDivisor_33
    · exact absurd c7 (by omega)
  | succ κ ih =>
    obtain ⟨h1, h2, h3, h4, h5, h6⟩ := hinv
    refine lv_iload hx hb d_C_commonDivisor_3 (lv_at hl 2 rfl) ?_
    refine ri_bipush hx hb d_C_commonDivisor_5 (by decide) ?_
    refine ri_icmp_ge (tgt := 32) hx hb d_C_commonDivisor_7 (by decide) (by omega) (by omega) (fun c7 => ?_) (fun c7 => ?_)
    · exact absurd c7 (by omega)
    · refine lv_lload_n hx hb d_C_commonDivisor_10 rfl (lv_at hl 1 rfl) ?_
      refine ri_lconst (z := 0) hx hb d_C_commonDivisor_11 rfl ?_
      refine ri_lc_le (tgt := 32) hx hb d_C_commonDivisor_12 d_C_commonDivisor_13 (by decide) (by omega) (by omega) (fun c12 => ?_) (fun c12 => ?_)
      · have hy : y = 0 := by omega
        subst hy
        rw [Nat.gcd_zero_right] at h5
        refine lv_lload_n hx hb d_C_commonDivisor_32 rfl (lv_at hl 0 rfl) ?_
        exact re_l hx hb hr hlocks (fun t ht hW => ⟨by rw [h5], ht⟩) (fun z hz => nomatch hz) (Nat.le_refl _) (Nat.le_refl _) d_C_commonDivisor_33
      · have h7 : 0 < y := by omega
        have h8 := eu_step h7 h6
        refine lv_lload_n hx hb d_C_commonDivisor_16 rfl (lv_at hl 0 rfl) ?_
        refine lv_lload_n hx hb d_C_commonDivisor_17 rfl (lv_at hl 1 rfl) ?_
        refine ri_lrem hx hb d_C_commonDivisor_18 (by omega) (by omega) (by omega) ?_
        refine tp_l (congrArg jJ (show Int.tmod ((x : Int)) ((y : Int)) = ((x % y : Nat) : Int) from tmod_nat x y)) ?_
        refine lv_lstore (lv' := [(5, .long (jJ (((x % y : Nat) : Int)))), (0, .long (jJ ((x : Int)))), (2, .long (jJ ((y : Int)))), (4, .int (iI (100 - ((κ + 1 : Nat) : Int))))]) hx hb d_C_commonDivisor_19 hl (by decide) rfl (fun ls hl => ?_)
        refine lv_lload_n hx hb d_C_commonDivisor_21 rfl (lv_at hl 2 rfl) ?_
        refine lv_lstore_n (lv' := [(0, .long (jJ ((y : Int)))), (5, .long (jJ (((x % y : Nat) : Int)))), (2, .long (jJ ((y : Int)))), (4, .int (iI (100 - ((κ + 1 : Nat) : Int))))]) hx hb d_C_commonDivisor_22 rfl hl (by decide) rfl (fun ls hl => ?_)
        refine lv_lload hx hb d_C_commonDivisor_23 (lv_at hl 1 rfl) ?_
        refine lv_lstore_n (lv' := [(2, .long (jJ (((x % y : Nat) : Int)))), (0, .long (jJ ((y : Int)))), (5, .long (jJ (((x % y : Nat) : Int)))), (4, .int (iI (100 - ((κ + 1 : Nat) : Int))))]) hx hb d_C_commonDivisor_25 rfl hl (by decide) rfl (fun ls hl => ?_)
        refine lv_iinc (v := iI (100 - (κ : Int))) (lv' := [(4, .int (iI (100 - (κ : Int)))), (2, .long (jJ (((x % y : Nat) : Int)))), (0, .long (jJ ((y : Int)))), (5, .long (jJ (((x % y : Nat) : Int))))]) hx hb d_C_commonDivisor_26 hl (k := 3) rfl (by rw [show Int32.ofInt 1 = iI 1 from rfl, ii_add]; congr 1; omega) (by decide) rfl (fun ls hl => ?_)
        refine lv_goto (tgt := 3) hx hb d_C_commonDivisor_29 (by decide) ?_
        exact ih ls (y) (x % y) ⟨by omega, by omega, h4, by omega, by rw [← gcd_step]; exact h5, Or.inl h8⟩ (lv_sub hl [2, 1, 0] rfl)

set_option maxHeartbeats 4000000 in
set_option maxRecDepth 100000 in
/-- a / b without a common divisor -/
theorem c_M_partOf (l : Launch) (a : Int) (b : Nat) (part : Int) (ha9 : -562949953421312 < a ∧ a < 562949953421312) (hb9 : 1 ≤ b ∧ b < 562949953421312) (hp9 : In32 part) : PuM l y_M_partOf { frames := 0, cells := 0, slots := 0, locals := 0 } [.long (jJ (a)), .long (jJ ((b : Int))), .int (iI (part))] (fun v => v = some (.long (jJ (frP a b part)))) := by
  refine ex_ofW (cc := b_M_partOf) (maxL := 11) (ret := (some .long)) (hh := []) (by decide +kernel) (Or.inl ⟨g_853, rfl⟩) ?_
  intro p9 e9 s m9 args9 below9 meth9 c9 s9 B9 hml htab hv
  obtain rfl := hv
  have hx := B9.exec
  have hb := B9.bytes
  have hr := B9.returns
  have hG := atoms_spec (ws := GW) B9.pre
  have hown : s.vm.findClass "LathePiecesModel" = some m9.cls := findClass_of_methodNamed B9.named
  have hlocks := B9.notSynchronized
  have hl := lv_entry ([.long (jJ (a)), .long (jJ ((b : Int))), .int (iI (part))]) (n := 11) (Nat.le_of_ble_eq_true rfl)
  rw [lg_entry_eq]
  generalize (lg_sl ([.long (jJ (a)), .long (jJ ((b : Int))), .int (iI (part))]) ++ List.replicate (11 - (lg_sl ([.long (jJ (a)), .long (jJ ((b : Int))), .int (iI (part))])).length) Slot.unset).toArray = ls at hl ⊢
  replace hl : lv_has ls 11 [(0, .long (jJ (a))), (2, .long (jJ ((b : Int)))), (4, .int (iI (part)))] := hl
  refine lv_lload_n hx hb d_M_partOf_0 rfl (lv_at hl 0 rfl) ?_
  refine ri_lconst (z := 0) hx hb d_M_partOf_1 rfl ?_
  refine ri_lc_ge (tgt := 11) hx hb d_M_partOf_2 d_M_partOf_3 (by decide) (by omega) (by omega) (fun c2 => ?_) (fun c2 => ?_)
  · refine lv_lload_n hx hb d_M_partOf_11 rfl (lv_at hl 0 rfl) ?_
    refine tp_l (congrArg jJ (show a = (a.natAbs : Int) from by omega)) ?_
    refine lv_lstore (lv' := [(5, .long (jJ ((a.natAbs : Int)))), (0, .long (jJ (a))), (2, .long (jJ ((b : Int)))), (4, .int (iI (part)))]) hx hb d_M_partOf_12 hl (by decide) rfl (fun ls hl => ?_)
    refine lv_lload_n hx hb d_M_partOf_14 rfl (lv_at hl 2 rfl) ?_
    refine lv_lstore (lv' := [(7, .long (jJ ((b : Int)))), (5, .long (jJ ((a.natAbs : Int)))), (0, .long (jJ (a))), (2, .long (jJ ((b : Int)))), (4, .int (iI (part)))]) hx hb d_M_partOf_15 hl (by decide) rfl (fun ls hl => ?_)
    obtain ⟨κ, x, y, hinv, hl1⟩ : ∃ (κ : Nat) (x y : Nat), (y ≤ κ ∧ 1 ≤ x + y ∧ x < 562949953421312 ∧ y < 562949953421312 ∧ Nat.gcd x y = Int.gcd a b) ∧ lv_has ls 11 [(0, .long (jJ (a))), (2, .long (jJ ((b : Int)))), (4, .int (iI (part))), (5, .long (jJ ((x : Int)))), (7, .long (jJ ((y : Int))))] := ⟨b, a.natAbs, b, ⟨Nat.le_refl _, by omega, by omega, by omega, rfl⟩, lv_sub hl [2, 3, 4, 1, 0] rfl⟩
    clear hl
    have hl := hl1
    clear hl1
    induction κ generalizing x y ls with
    | zero =>
      obtain ⟨h1, h2, h3, h4, h5⟩ := hinv
      refine lv_lload hx hb d_M_partOf_17 (lv_at hl 4 rfl) ?_
      refine ri_lconst (z := 0) hx hb d_M_partOf_19 rfl ?_
      refine ri_lc_eq (tgt := 42) hx hb d_M_partOf_20 d_M_partOf_21 (by decide) (by omega) (by omega) (fun c20 => ?_) (fun c20 => ?_)
      · have hy : y = 0 := by omega
        subst hy
        rw [Nat.gcd_zero_right] at h5
        refine lv_iload hx hb d_M_partOf_42 (lv_at hl 2 rfl) ?_
        refine ri_if_ne (tgt := 54) hx hb d_M_partOf_44 (by decide) (by omega) (fun c44 => ?_) (fun c44 => ?_)
        · refine lv_lload_n hx hb d_M_partOf_54 rfl (lv_at hl 1 rfl) ?_
          refine lv_lload hx hb d_M_partOf_55 (lv_at hl 3 rfl) ?_
          refine ri_ldiv hx hb d_M_partOf_57 (by omega) (by omega) (by omega) ?_
          exact re_l hx hb hr hlocks (fun t ht hW => ⟨by rw [frP, if_neg c44, ← h5], ht⟩) (fun z hz => nomatch hz) (Nat.le_refl _) (Nat.le_refl _) d_M_partOf_58
        · refine lv_lload_n hx hb d_M_partOf_47 rfl (lv_at hl 0 rfl) ?_
          refine lv_lload hx hb d_M_partOf_48 (lv_at hl 3 rfl) ?_
          refine ri_ldiv hx hb d_M_partOf_50 (by omega) (by omega) (by omega) ?_
          refine lv_goto (tgt := 58) hx hb d_M_partOf_51 (by decide) ?_
          exact re_l hx hb hr hlocks (fun t ht hW => ⟨by rw [frP, if_pos c44, ← h5], ht⟩) (fun z hz => nomatch hz) (Nat.le_refl _) (Nat.le_refl _) d_M_partOf_58
      · exact absurd c20 (by omega)
    | succ κ ih =>
      obtain ⟨h1, h2, h3, h4, h5⟩ := hinv
      refine lv_lload hx hb d_M_partOf_17 (lv_at hl 4 rfl) ?_
      refine ri_lconst (z := 0) hx hb d_M_partOf_19 rfl ?_
      refine ri_lc_eq (tgt := 42) hx hb d_M_partOf_20 d_M_partOf_21 (by decide) (by omega) (by omega) (fun c20 => ?_) (fun c20 => ?_)
      · have hy : y = 0 := by omega
        subst hy
        rw [Nat.gcd_zero_right] at h5
        refine lv_iload hx hb d_M_partOf_42 (lv_at hl 2 rfl) ?_
        refine ri_if_ne (tgt := 54) hx hb d_M_partOf_44 (by decide) (by omega) (fun c44 => ?_) (fun c44 => ?_)
        · refine lv_lload_n hx hb d_M_partOf_54 rfl (lv_at hl 1 rfl) ?_
          refine lv_lload hx hb d_M_partOf_55 (lv_at hl 3 rfl) ?_
          refine ri_ldiv hx hb d_M_partOf_57 (by omega) (by omega) (by omega) ?_
          exact re_l hx hb hr hlocks (fun t ht hW => ⟨by rw [frP, if_neg c44, ← h5], ht⟩) (fun z hz => nomatch hz) (Nat.le_refl _) (Nat.le_refl _) d_M_partOf_58
        · refine lv_lload_n hx hb d_M_partOf_47 rfl (lv_at hl 0 rfl) ?_
          refine lv_lload hx hb d_M_partOf_48 (lv_at hl 3 rfl) ?_
          refine ri_ldiv hx hb d_M_partOf_50 (by omega) (by omega) (by omega) ?_
          refine lv_goto (tgt := 58) hx hb d_M_partOf_51 (by decide) ?_
          exact re_l hx hb hr hlocks (fun t ht hW => ⟨by rw [frP, if_pos c44, ← h5], ht⟩) (fun z hz => nomatch hz) (Nat.le_refl _) (Nat.le_refl _) d_M_partOf_58
      · have h7 : 0 < y := by omega
        have h8 := Nat.mod_lt x h7
        refine lv_lload hx hb d_M_partOf_24 (lv_at hl 3 rfl) ?_
        refine lv_lload hx hb d_M_partOf_26 (lv_at hl 4 rfl) ?_
        refine ri_lrem hx hb d_M_partOf_28 (by omega) (by omega) (by omega) ?_
        refine tp_l (congrArg jJ (show Int.tmod ((x : Int)) ((y : Int)) = ((x % y : Nat) : Int) from tmod_nat x y)) ?_
        refine lv_lstore (lv' := [(9, .long (jJ (((x % y : Nat) : Int)))), (0, .long (jJ (a))), (2, .long (jJ ((b : Int)))), (4, .int (iI (part))), (5, .long (jJ ((x : Int)))), (7, .long (jJ ((y : Int))))]) hx hb d_M_partOf_29 hl (by decide) rfl (fun ls hl => ?_)
        refine lv_lload hx hb d_M_partOf_31 (lv_at hl 5 rfl) ?_
        refine lv_lstore (lv' := [(5, .long (jJ ((y : Int)))), (9, .long (jJ (((x % y : Nat) : Int)))), (0, .long (jJ (a))), (2, .long (jJ ((b : Int)))), (4, .int (iI (part))), (7, .long (jJ ((y : Int))))]) hx hb d_M_partOf_33 hl (by decide) rfl (fun ls hl => ?_)
        refine lv_lload hx hb d_M_partOf_35 (lv_at hl 1 rfl) ?_
        refine lv_lstore (lv' := [(7, .long (jJ (((x % y : Nat) : Int)))), (5, .long (jJ ((y : Int)))), (9, .long (jJ (((x % y : Nat) : Int)))), (0, .long (jJ (a))), (2, .long (jJ ((b : Int)))), (4, .int (iI (part)))]) hx hb d_M_partOf_37 hl (by decide) rfl (fun ls hl => ?_)
        refine lv_goto (tgt := 17) hx hb d_M_partOf_39 (by decide) ?_
        exact ih ls (y) (x % y) ⟨by omega, by omega, h4, by omega, by rw [← gcd_step]; exact h5⟩ (lv_sub hl [3, 4, 5, 1, 0] rfl)
  · refine lv_lload_n hx hb d_M_partOf_6 rfl (lv_at hl 0 rfl) ?_
    refine ri_lneg hx hb d_M_partOf_7 ?_
    refine lv_goto (tgt := 12) hx hb d_M_partOf_8 (by decide) ?_
    refine tp_l (congrArg jJ (show -(a) = (a.natAbs : Int) from by omega)) ?_
    refine lv_lstore (lv' := [(5, .long (jJ ((a.natAbs : Int)))), (0, .long (jJ (a))), (2, .long (jJ ((b : Int)))), (4, .int (iI (part)))]) hx hb d_M_partOf_12 hl (by decide) rfl (fun ls hl => ?_)
    refine lv_lload_n hx hb d_M_partOf_14 rfl (lv_at hl 2 rfl) ?_
    refine lv_lstore (lv' := [(7, .long (jJ ((b : Int)))), (5, .long (jJ ((a.natAbs : Int)))), (0, .long (jJ (a))), (2, .long (jJ ((b : Int)))), (4, .int (iI (part)))]) hx hb d_M_partOf_15 hl (by decide) rfl (fun ls hl => ?_)
    obtain ⟨κ, x, y, hinv, hl1⟩ : ∃ (κ : Nat) (x y : Nat), (y ≤ κ ∧ 1 ≤ x + y ∧ x < 562949953421312 ∧ y < 562949953421312 ∧ Nat.gcd x y = Int.gcd a b) ∧ lv_has ls 11 [(0, .long (jJ (a))), (2, .long (jJ ((b : Int)))), (4, .int (iI (part))), (5, .long (jJ ((x : Int)))), (7, .long (jJ ((y : Int))))] := ⟨b, a.natAbs, b, ⟨Nat.le_refl _, by omega, by omega, by omega, rfl⟩, lv_sub hl [2, 3, 4, 1, 0] rfl⟩
    clear hl
    have hl := hl1
    clear hl1
    induction κ generalizing x y ls with
    | zero =>
      obtain ⟨h1, h2, h3, h4, h5⟩ := hinv
      refine lv_lload hx hb d_M_partOf_17 (lv_at hl 4 rfl) ?_
      refine ri_lconst (z := 0) hx hb d_M_partOf_19 rfl ?_
      refine ri_lc_eq (tgt := 42) hx hb d_M_partOf_20 d_M_partOf_21 (by decide) (by omega) (by omega) (fun c20 => ?_) (fun c20 => ?_)
      · have hy : y = 0 := by omega
        subst hy
        rw [Nat.gcd_zero_right] at h5
        refine lv_iload hx hb d_M_partOf_42 (lv_at hl 2 rfl) ?_
        refine ri_if_ne (tgt := 54) hx hb d_M_partOf_44 (by decide) (by omega) (fun c44 => ?_) (fun c44 => ?_)
        · refine lv_lload_n hx hb d_M_partOf_54 rfl (lv_at hl 1 rfl) ?_
          refine lv_lload hx hb d_M_partOf_55 (lv_at hl 3 rfl) ?_
          refine ri_ldiv hx hb d_M_partOf_57 (by omega) (by omega) (by omega) ?_
          exact re_l hx hb hr hlocks (fun t ht hW => ⟨by rw [frP, if_neg c44, ← h5], ht⟩) (fun z hz => nomatch hz) (Nat.le_refl _) (Nat.le_refl _) d_M_partOf_58
        · refine lv_lload_n hx hb d_M_partOf_47 rfl (lv_at hl 0 rfl) ?_
          refine lv_lload hx hb d_M_partOf_48 (lv_at hl 3 rfl) ?_
          refine ri_ldiv hx hb d_M_partOf_50 (by omega) (by omega) (by omega) ?_
          refine lv_goto (tgt := 58) hx hb d_M_partOf_51 (by decide) ?_
          exact re_l hx hb hr hlocks (fun t ht hW => ⟨by rw [frP, if_pos c44, ← h5], ht⟩) (fun z hz => nomatch hz) (Nat.le_refl _) (Nat.le_refl _) d_M_partOf_58
      · exact absurd c20 (by omega)
    | succ κ ih =>
      obtain ⟨h1, h2, h3, h4, h5⟩ := hinv
      refine lv_lload hx hb d_M_partOf_17 (lv_at hl 4 rfl) ?_
      refine ri_lconst (z := 0) hx hb d_M_partOf_19 rfl ?_
      refine ri_lc_eq (tgt := 42) hx hb d_M_partOf_20 d_M_partOf_21 (by decide) (by omega) (by omega) (fun c20 => ?_) (fun c20 => ?_)
      · have hy : y = 0 := by omega
        subst hy
        rw [Nat.gcd_zero_right] at h5
        refine lv_iload hx hb d_M_partOf_42 (lv_at hl 2 rfl) ?_
        refine ri_if_ne (tgt := 54) hx hb d_M_partOf_44 (by decide) (by omega) (fun c44 => ?_) (fun c44 => ?_)
        · refine lv_lload_n hx hb d_M_partOf_54 rfl (lv_at hl 1 rfl) ?_
          refine lv_lload hx hb d_M_partOf_55 (lv_at hl 3 rfl) ?_
          refine ri_ldiv hx hb d_M_partOf_57 (by omega) (by omega) (by omega) ?_
          exact re_l hx hb hr hlocks (fun t ht hW => ⟨by rw [frP, if_neg c44, ← h5], ht⟩) (fun z hz => nomatch hz) (Nat.le_refl _) (Nat.le_refl _) d_M_partOf_58
        · refine lv_lload_n hx hb d_M_partOf_47 rfl (lv_at hl 0 rfl) ?_
          refine lv_lload hx hb d_M_partOf_48 (lv_at hl 3 rfl) ?_
          refine ri_ldiv hx hb d_M_partOf_50 (by omega) (by omega) (by omega) ?_
          refine lv_goto (tgt := 58) hx hb d_M_partOf_51 (by decide) ?_
          exact re_l hx hb hr hlocks (fun t ht hW => ⟨by rw [frP, if_pos c44, ← h5], ht⟩) (fun z hz => nomatch hz) (Nat.le_refl _) (Nat.le_refl _) d_M_partOf_58
      · have h7 : 0 < y := by omega
        have h8 := Nat.mod_lt x h7
        refine lv_lload hx hb d_M_partOf_24 (lv_at hl 3 rfl) ?_
        refine lv_lload hx hb d_M_partOf_26 (lv_at hl 4 rfl) ?_
        refine ri_lrem hx hb d_M_partOf_28 (by omega) (by omega) (by omega) ?_
        refine tp_l (congrArg jJ (show Int.tmod ((x : Int)) ((y : Int)) = ((x % y : Nat) : Int) from tmod_nat x y)) ?_
        refine lv_lstore (lv' := [(9, .long (jJ (((x % y : Nat) : Int)))), (0, .long (jJ (a))), (2, .long (jJ ((b : Int)))), (4, .int (iI (part))), (5, .long (jJ ((x : Int)))), (7, .long (jJ ((y : Int))))]) hx hb d_M_partOf_29 hl (by decide) rfl (fun ls hl => ?_)
        refine lv_lload hx hb d_M_partOf_31 (lv_at hl 5 rfl) ?_
        refine lv_lstore (lv' := [(5, .long (jJ ((y : Int)))), (9, .long (jJ (((x % y : Nat) : Int)))), (0, .long (jJ (a))), (2, .long (jJ ((b : Int)))), (4, .int (iI (part))), (7, .long (jJ ((y : Int))))]) hx hb d_M_partOf_33 hl (by decide) rfl (fun ls hl => ?_)
        refine lv_lload hx hb d_M_partOf_35 (lv_at hl 1 rfl) ?_
        refine lv_lstore (lv' := [(7, .long (jJ (((x % y : Nat) : Int)))), (5, .long (jJ ((y : Int)))), (9, .long (jJ (((x % y : Nat) : Int)))), (0, .long (jJ (a))), (2, .long (jJ ((b : Int)))), (4, .int (iI (part)))]) hx hb d_M_partOf_37 hl (by decide) rfl (fun ls hl => ?_)
        refine lv_goto (tgt := 17) hx hb d_M_partOf_39 (by decide) ?_
        exact ih ls (y) (x % y) ⟨by omega, by omega, h4, by omega, by rw [← gcd_step]; exact h5⟩ (lv_sub hl [3, 4, 5, 1, 0] rfl)

set_option maxHeartbeats 4000000 in
set_option maxRecDepth 100000 in
/-- a / b without a common divisor -/
theorem c_C_fractionPart (l : Launch) (a : Int) (b : Nat) (part : Int) (ha9 : -562949953421312 < a ∧ a < 562949953421312) (hb9 : 1 ≤ b ∧ b < 562949953421312) (hab : 2 * (b * a.natAbs) < 2 ^ 100) (hp9 : In32 part) : PuM l y_C_fractionPart { frames := 1, cells := 0, slots := 0, locals := 26 } [.long (jJ (a)), .long (jJ ((b : Int))), .int (iI (part))] (fun v => v = some (.long (jJ (frP a b part)))) := by
  refine ex_ofW (cc := b_C_fractionPart) (maxL := 7) (ret := (some .long)) (hh := []) (by decide +kernel) (Or.inl ⟨g_551, rfl⟩) ?_
  intro p9 e9 s m9 args9 below9 meth9 c9 s9 B9 hml htab hv
  obtain rfl := hv
  have hx := B9.exec
  have hb := B9.bytes
  have hr := B9.returns
  have hG := atoms_spec (ws := GW) B9.pre
  have hown : s.vm.findClass "LathePieces" = some m9.cls := findClass_of_methodNamed B9.named
  have hlocks := B9.notSynchronized
  have hl := lv_entry ([.long (jJ (a)), .long (jJ ((b : Int))), .int (iI (part))]) (n := 7) (Nat.le_of_ble_eq_true rfl)
  rw [lg_entry_eq]
  generalize (lg_sl ([.long (jJ (a)), .long (jJ ((b : Int))), .int (iI (part))]) ++ List.replicate (7 - (lg_sl ([.long (jJ (a)), .long (jJ ((b : Int))), .int (iI (part))])).length) Slot.unset).toArray = ls at hl ⊢
  replace hl : lv_has ls 7 [(0, .long (jJ (a))), (2, .long (jJ ((b : Int)))), (4, .int (iI (part)))] := hl
  refine lv_lload_n hx hb d_C_fractionPart_0 rfl (lv_at hl 1 rfl) ?_
  refine lv_lload_n hx hb d_C_fractionPart_1 rfl (lv_at hl 0 rfl) ?_
  refine pu_S (As := [.long (jJ (a))]) (rest := [.long (jJ ((b : Int)))]) ⟨hx, hb, hml, hown, hG⟩ (c_J_absL l a (by omega)) (cb_code (R := _) (n := 1) hG g_554 g_9 g_552 rfl rfl (by decide +kernel) ⟨Nat.le_of_ble_eq_true rfl, Nat.le_of_ble_eq_true rfl⟩) (hG _ g_553) rfl hl.1 rfl (Nat.le_of_ble_eq_true rfl) d_C_fractionPart_2 ⟨Nat.zero_le _, Nat.zero_le _⟩ (fun v9 h9 => ?_)
  obtain rfl := h9
  show W _ _ _ _ _ _ _ _ _ _ _ _ _ _ _ (F0 m9 5 ls [.long (jJ ((a.natAbs : Int))), .long (jJ ((b : Int)))])
  refine pu_S (As := [.long (jJ ((b : Int))), .long (jJ ((a.natAbs : Int)))]) (rest := []) ⟨hx, hb, hml, hown, hG⟩ (c_C_commonDivisor l b a.natAbs hb9 (by omega) hab) (cb_code (R := _) (n := 2) hG g_557 g_1 g_555 rfl rfl (by decide +kernel) ⟨Nat.le_of_ble_eq_true rfl, Nat.le_of_ble_eq_true rfl⟩) (hG _ g_556) rfl hl.1 rfl (Nat.le_of_ble_eq_true rfl) d_C_fractionPart_5 ⟨Nat.zero_le _, Nat.zero_le _⟩ (fun v9 h9 => ?_)
  obtain rfl := h9
  show W _ _ _ _ _ _ _ _ _ _ _ _ _ _ _ (F0 m9 8 ls [.long (jJ ((Nat.gcd b a.natAbs : Nat)))])
  have e1 : Nat.gcd b a.natAbs = Int.gcd a b := Nat.gcd_comm _ _
  have e2 : 0 < Int.gcd a b := by rw [← e1]; exact Nat.gcd_pos_of_pos_left _ hb9.1
  have e3 : Int.gcd a b ≤ b := by rw [← e1]; exact Nat.gcd_le_left _ hb9.1
  rw [e1]
  refine lv_lstore (lv' := [(5, .long (jJ ((Int.gcd a b : Nat)))), (0, .long (jJ (a))), (2, .long (jJ ((b : Int)))), (4, .int (iI (part)))]) hx hb d_C_fractionPart_8 hl (by decide) rfl (fun ls hl => ?_)
  refine lv_iload hx hb d_C_fractionPart_10 (lv_at hl 3 rfl) ?_
  refine ri_if_ne (tgt := 19) hx hb d_C_fractionPart_12 (by decide) (by omega) (fun c12 => ?_) (fun c12 => ?_)
  · refine lv_lload_n hx hb d_C_fractionPart_19 rfl (lv_at hl 2 rfl) ?_
    refine lv_lload hx hb d_C_fractionPart_20 (lv_at hl 0 rfl) ?_
    refine ri_ldiv hx hb d_C_fractionPart_22 (by omega) (by omega) (by omega) ?_
    exact re_l hx hb hr hlocks (fun t ht hW => ⟨by rw [frP, if_neg c12], ht⟩) (fun z hz => nomatch hz) (Nat.le_refl _) (Nat.le_refl _) d_C_fractionPart_23
  · refine lv_lload_n hx hb d_C_fractionPart_15 rfl (lv_at hl 1 rfl) ?_
    refine lv_goto (tgt := 20) hx hb d_C_fractionPart_16 (by decide) ?_
    refine lv_lload hx hb d_C_fractionPart_20 (lv_at hl 0 rfl) ?_
    refine ri_ldiv hx hb d_C_fractionPart_22 (by omega) (by omega) (by omega) ?_
    exact re_l hx hb hr hlocks (fun t ht hW => ⟨by rw [frP, if_pos c12], ht⟩) (fun z hz => nomatch hz) (Nat.le_refl _) (Nat.le_refl _) d_C_fractionPart_23
end
section
/-! Kinds of contracts, and calls of them out of a method without handlers. -/
abbrev aL (s0 : State) : Addr → Prop := fun q => s0.heap.size ≤ q
/-- reads, and returns -/
abbrev RdM (l : Launch) (s0 : State) (y : MethodName) (rm : Room) (As : List Value) (Pw : Heap → Prop) (post : Option Value → Prop) : Prop :=
  ex_Met l y GW rm (fun a U => a = As.toArray ∧ La s0 U ∧ Pw U.heap) (fun v st t => post v ∧ t.heap = st.heap) (fun _ _ _ => False) 0 0 (fun _ => False)
/-- reads, and returns or throws -/
abbrev ThM (l : Launch) (s0 : State) (y : MethodName) (rm : Room) (As : List Value) (Pw : Heap → Prop) (post : Option Value → Prop) (px : String → Prop) (mc ms : Nat) : Prop :=
  ex_Met l y GW rm (fun a U => a = As.toArray ∧ La s0 U ∧ Pw U.heap) (fun v st t => post v ∧ t.heap = st.heap) (fun E st t => px E ∧ La s0 t ∧ st.heap.size ≤ t.heap.size ∧ ∀ q : Nat, q < st.heap.size → t.heap[q]? = st.heap[q]?) mc ms (aL s0)
/-- changes the world, and returns or throws -/
abbrev WdM (l : Launch) (s0 : State) (D : va_G) (y : MethodName) (rm : Room) (As : List Value) (ws : va_W) (post : Option Value → va_W → Prop) (px : String → va_W → Prop) (mc ms : Nat) : Prop :=
  ex_Met l y GW rm (fun a U => a = As.toArray ∧ Wd s0 D ws U) (fun v _ t => ∃ ws', post v ws' ∧ Wd s0 D ws' t) (fun E _ t => ∃ ws', px E ws' ∧ Wd s0 D ws' t) mc ms (aL s0)
section KindCalls
variable {p : Program} {l : Launch} {e : Env} {R : Room} {s : State} {m : MethodId} {args : Array Value} {below : List Frame} {meth : Method} {c : Code} {H : Heap} {locs : List Loc} {cells slots : Nat} {Q : State → Prop}
variable {cc bytes : ByteArray} {pc nL maxL mc ms mc1 ms1 n index : Nat} {ls : Array Slot} {As rest st0 : List Value} {own C : String} {y : MethodName} {rm : Room} {Ts : List Cond} {b : Addr}
variable {s0 : State} {D : va_G} {ws : va_W} {Pw : Heap → Prop} {post : Option Value → Prop} {px : String → Prop} {postW : Option Value → va_W → Prop} {pxW : String → va_W → Prop} {Qr : Option Value → State → State → Prop} {Qx : String → State → State → Prop}
theorem kd_pre (h0 : La s0 s) (hS : va_S (aL s0) s.heap H locs) (hPw : Pw H) {a : List Value} : PreS s H (fun v U => v = a.toArray ∧ La s0 U ∧ Pw U.heap) a :=
  ⟨fun _ _ _ _ q => q, fun U hU hW => ⟨rfl, la_next h0 (fun _ z => z) hS U hU hW, by rw [hU]; exact hPw⟩⟩
theorem kd_preW (h0 : La s0 s) (hS : va_S (aL s0) s.heap H locs) (hP : va_P D classes ws H) (hD : va_D (aL s0) ws) {a : List Value} : PreS s H (fun v U => v = a.toArray ∧ Wd s0 D ws U) a :=
  ⟨fun _ _ _ _ q => q, fun U hU hW => ⟨rfl, wd_next h0 hS hP hD U hU hW⟩⟩
theorem rd_call {g : JFrame} (hr : ex_Run p l e R s m args below meth c H locs cells slots 0 0 g rest (fun v st t => post v ∧ t.heap = st.heap) (fun _ _ _ => False) (fun _ => False))
    (kk : ∀ v, post v → W p l e R s m args below meth c H locs cells slots Q { g with pc := g.pc + 3, stack := v.toList ++ rest }) : W p l e R s m args below meth c H locs cells slots Q g := pu_call hr kk
theorem th_call (h0 : La s0 s) (hS : va_S (aL s0) s.heap H locs) (htab : c.exceptionTable.toList = tableOf []) (hlocks : meth.locks = false) (hc : cells + mc1 ≤ mc) (hs : slots + ms1 ≤ ms)
    (hr : ex_Run p l e R s m args below meth c H locs cells slots mc1 ms1 (F0 m pc ls st0) rest (fun v st t => post v ∧ t.heap = st.heap) (fun E st t => px E ∧ La s0 t ∧ st.heap.size ≤ t.heap.size ∧ ∀ q : Nat, q < st.heap.size → t.heap[q]? = st.heap[q]?) (aL s0))
    (kx : ∀ E, px E → ∀ t : State, La s0 t → H.size ≤ t.heap.size → (∀ q : Nat, q < H.size → t.heap[q]? = H[q]?) → Qx E s t)
    (kk : ∀ v, post v → ∀ locs : List Loc, va_S (aL s0) s.heap H locs → W p l e R s m args below meth c H locs (cells + mc1) (slots + ms1) (ex_MQ below Qr Qx args s mc ms (aL s0)) (F0 m (pc + 3) ls (v.toList ++ rest))) :
    W p l e R s m args below meth c H locs cells slots (ex_MQ below Qr Qx args s mc ms (aL s0)) (F0 m pc ls st0) := by
  refine ex_call hr (fun v st₀ t H1 L e0 e1 hal hz hL hq => ?_) (fun q E st₀ t H1 L e0 e1 hal hz hL ht hqx => ?_)
  · have eH : H1 = H := by rw [← e1, hq.2, e0]
    subst eH
    refine kk v hq.1 _ ⟨hS.1, hS.2.1, fun z hm => ?_⟩
    rcases List.mem_append.mp hm with q | q
    · exact hS.2.2 z q
    · exact hL z q
  · obtain ⟨hp, hla, hz2, ho⟩ := hqx
    rw [e0] at hz2 ho
    refine ex_out (T0 := t) (fun x hm => by rw [htab] at hm; cases hm) hlocks e1 ht (fun t2 ht2 hW2 => kx E hp t2 ?_ (by rw [ht2, ← e1]; exact hz2) (fun z hzl => by rw [ht2, ← e1]; exact ho z hzl)) (wd_S h0 hS hla e1 hz hL).2.2 hc hs
    exact ⟨State.WarmedH.trans h0.1 hW2, by rw [ht2, ← e1]; exact hla.2.1, fun z hzl => by rw [ht2, ← e1]; exact hla.2.2 z hzl⟩
theorem wd_call (h0 : La s0 s) (hS : va_S (aL s0) s.heap H locs) (htab : c.exceptionTable.toList = tableOf []) (hlocks : meth.locks = false) (hc : cells + mc1 ≤ mc) (hs : slots + ms1 ≤ ms)
    (hr : ex_Run p l e R s m args below meth c H locs cells slots mc1 ms1 (F0 m pc ls st0) rest (fun v _ t => ∃ ws', postW v ws' ∧ Wd s0 D ws' t) (fun E _ t => ∃ ws', pxW E ws' ∧ Wd s0 D ws' t) (aL s0))
    (kx : ∀ E ws', pxW E ws' → ∀ t : State, Wd s0 D ws' t → Qx E s t)
    (kk : ∀ v ws', postW v ws' → ∀ (H : Heap) (locs : List Loc), va_P D classes ws' H → va_D (aL s0) ws' → va_S (aL s0) s.heap H locs → W p l e R s m args below meth c H locs (cells + mc1) (slots + ms1) (ex_MQ below Qr Qx args s mc ms (aL s0)) (F0 m (pc + 3) ls (v.toList ++ rest))) :
    W p l e R s m args below meth c H locs cells slots (ex_MQ below Qr Qx args s mc ms (aL s0)) (F0 m pc ls st0) := by
  refine ex_call hr (fun v st₀ t H1 L e0 e1 hal hz hL hq => ?_) (fun q E st₀ t H1 L e0 e1 hal hz hL ht hqx => ?_)
  · obtain ⟨ws', hp, hla, hP, hD⟩ := hq
    rw [e1] at hP
    exact kk v ws' hp H1 _ hP hD (wd_S h0 hS hla e1 hz hL)
  · obtain ⟨ws', hp, hla, hP, hD⟩ := hqx
    refine ex_out (T0 := t) (fun x hm => by rw [htab] at hm; cases hm) hlocks e1 ht (fun t2 ht2 hW2 => kx E ws' hp t2 ⟨⟨State.WarmedH.trans h0.1 hW2, by rw [ht2, ← e1]; exact hla.2.1, fun z hzl => by rw [ht2, ← e1]; exact hla.2.2 z hzl⟩, by rw [ht2, ← e1]; exact hP, hD⟩) (wd_S h0 hS hla e1 hz hL).2.2 hc hs
/-- the receiver -/
theorem kd_recv {k : Nat → ClassId} {q0 ci : Nat} {q : vw_C} {fs : List Value} (hK : va_K D classes (tysOf k) s) (hP : va_P D classes ws H) (hc : classes[ci]? = some q) (he : ws[q0]? = some (b, .inr (ci, fs))) (hC : q.1 = C) : ∃ cellB : Cell, H[b]? = some cellB ∧ cellB.vm.isStatics = false ∧ s.vm.findClass C = some cellB.cls := by
  obtain ⟨cell, h1, h2, h3⟩ := va_recv hK hP hc he
  exact ⟨cell, h1, h2, by rw [← hC]; exact h3⟩
theorem kd_V {Pc : Array Value → State → Prop} (hp : PreS s H Pc (.ref b :: As)) (hr : ∃ cellB : Cell, H[b]? = some cellB ∧ cellB.vm.isStatics = false ∧ s.vm.findClass C = some cellB.cls) : PreV s H C b Pc As := ⟨hp.1, hr, hp.2⟩
end KindCalls
end
section
set_option maxHeartbeats 4000000 in
set_option maxRecDepth 100000 in
theorem c_C_checkNumber {l : Launch} {s0 : State} {D : va_G} {k : Nat → ClassId} (hC : Cx l s0 D k) (a b u : Int) (ha : In32 a) (hb9 : In32 b) (hu : In32 u) : ThM l s0 y_C_checkNumber { frames := 6, cells := 1, slots := 6, locals := 90 } [.int (iI (a)), .int (iI (b)), .int (iI (u))] (fun _ => True) (fun v => v = none ∧ b ≤ a ∧ a ≤ u) (fun E => E = xIA ∧ ¬ (b ≤ a ∧ a ≤ u)) 1 6 := by
  refine ex_ofW (cc := b_C_checkNumber) (maxL := 3) (ret := none) (hh := []) (by decide +kernel) (Or.inl ⟨g_112, rfl⟩) ?_
  intro p9 e9 s m9 args9 below9 meth9 c9 s9 B9 hml htab hv
  obtain ⟨rfl, h0, hP⟩ := hv
  have hx := B9.exec
  have hb := B9.bytes
  have hr := B9.returns
  have hG := atoms_spec (ws := GW) B9.pre
  have hown : s.vm.findClass "LathePieces" = some m9.cls := findClass_of_methodNamed B9.named
  have hlocks := B9.notSynchronized
  have hK := cx_K hC h0
  have hS : va_S (aL s0) s.heap s.heap [] := va_S.rf
  have hl := lv_entry ([.int (iI (a)), .int (iI (b)), .int (iI (u))]) (n := 3) (Nat.le_of_ble_eq_true rfl)
  rw [lg_entry_eq]
  generalize (lg_sl ([.int (iI (a)), .int (iI (b)), .int (iI (u))]) ++ List.replicate (3 - (lg_sl ([.int (iI (a)), .int (iI (b)), .int (iI (u))])).length) Slot.unset).toArray = ls at hl ⊢
  have hl : lv_has ls 3 [(0, .int (iI (a))), (1, .int (iI (b))), (2, .int (iI (u)))] := hl
  refine lv_iload_n hx hb d_C_checkNumber_0 rfl (lv_at hl 0 rfl) ?_
  refine lv_iload_n hx hb d_C_checkNumber_1 rfl (lv_at hl 1 rfl) ?_
  refine ri_icmp_lt (tgt := 10) hx hb d_C_checkNumber_2 (by decide) (by omega) (by omega) (fun c2 => ?_) (fun c2 => ?_)
  · exact tk_throw (kl := 3) hC h0 hx hb hown xA_IA (by decide +kernel) g_115 g_113 g_7 g_154 hS (hl.1.trans hml.symm) d_C_checkNumber_10 d_C_checkNumber_13 (Or.inr ⟨rfl, d_C_checkNumber_14⟩) d_C_checkNumber_17 d_C_checkNumber_20 htab hlocks (Nat.le_of_ble_eq_true rfl) (Nat.le_of_ble_eq_true rfl) (Nat.le_of_ble_eq_true rfl) (Nat.le_of_ble_eq_true rfl) (fun t hla hz ho => ⟨⟨rfl, by omega⟩, hla, hz, ho⟩) (Nat.le_of_ble_eq_true rfl) (Nat.le_of_ble_eq_true rfl)
  · refine lv_iload_n hx hb d_C_checkNumber_5 rfl (lv_at hl 0 rfl) ?_
    refine lv_iload_n hx hb d_C_checkNumber_6 rfl (lv_at hl 2 rfl) ?_
    refine ri_icmp_le (tgt := 21) hx hb d_C_checkNumber_7 (by decide) (by omega) (by omega) (fun c7 => ?_) (fun c7 => ?_)
    · exact re_v hx hb hr hlocks (fun t ht hW => ⟨⟨rfl, by omega, by omega⟩, ht⟩) hS.2.2 (Nat.le_of_ble_eq_true rfl) (Nat.le_of_ble_eq_true rfl) d_C_checkNumber_21
    · exact tk_throw (kl := 3) hC h0 hx hb hown xA_IA (by decide +kernel) g_115 g_113 g_7 g_154 hS (hl.1.trans hml.symm) d_C_checkNumber_10 d_C_checkNumber_13 (Or.inr ⟨rfl, d_C_checkNumber_14⟩) d_C_checkNumber_17 d_C_checkNumber_20 htab hlocks (Nat.le_of_ble_eq_true rfl) (Nat.le_of_ble_eq_true rfl) (Nat.le_of_ble_eq_true rfl) (Nat.le_of_ble_eq_true rfl) (fun t hla hz ho => ⟨⟨rfl, by omega⟩, hla, hz, ho⟩) (Nat.le_of_ble_eq_true rfl) (Nat.le_of_ble_eq_true rfl)

set_option maxHeartbeats 4000000 in
set_option maxRecDepth 100000 in
theorem c_C_checkPart {l : Launch} {s0 : State} {D : va_G} {k : Nat → ClassId} (hC : Cx l s0 D k) (a : Int) (ha : In32 a) : ThM l s0 y_C_checkPart { frames := 6, cells := 1, slots := 6, locals := 90 } [.int (iI (a))] (fun _ => True) (fun v => v = none ∧ (a = 0 ∨ a = 1)) (fun E => E = xIO ∧ ¬ (a = 0 ∨ a = 1)) 1 6 := by
  refine ex_ofW (cc := b_C_checkPart) (maxL := 1) (ret := none) (hh := []) (by decide +kernel) (Or.inl ⟨g_546, rfl⟩) ?_
  intro p9 e9 s m9 args9 below9 meth9 c9 s9 B9 hml htab hv
  obtain ⟨rfl, h0, hP⟩ := hv
  have hx := B9.exec
  have hb := B9.bytes
  have hr := B9.returns
  have hG := atoms_spec (ws := GW) B9.pre
  have hown : s.vm.findClass "LathePieces" = some m9.cls := findClass_of_methodNamed B9.named
  have hlocks := B9.notSynchronized
  have hK := cx_K hC h0
  have hS : va_S (aL s0) s.heap s.heap [] := va_S.rf
  have hl := lv_entry ([.int (iI (a))]) (n := 1) (Nat.le_of_ble_eq_true rfl)
  rw [lg_entry_eq]
  generalize (lg_sl ([.int (iI (a))]) ++ List.replicate (1 - (lg_sl ([.int (iI (a))])).length) Slot.unset).toArray = ls at hl ⊢
  have hl : lv_has ls 1 [(0, .int (iI (a)))] := hl
  refine lv_iload_n hx hb d_C_checkPart_0 rfl (lv_at hl 0 rfl) ?_
  refine ri_if_eq (tgt := 20) hx hb d_C_checkPart_1 (by decide) (by omega) (fun c1 => ?_) (fun c1 => ?_)
  · exact re_v hx hb hr hlocks (fun t ht hW => ⟨⟨rfl, by omega⟩, ht⟩) hS.2.2 (Nat.le_of_ble_eq_true rfl) (Nat.le_of_ble_eq_true rfl) d_C_checkPart_20
  · refine lv_iload_n hx hb d_C_checkPart_4 rfl (lv_at hl 0 rfl) ?_
    refine ri_iconst hx hb d_C_checkPart_5 ?_
    refine ri_icmp_eq (tgt := 20) hx hb d_C_checkPart_6 (by decide) (by omega) (by omega) (fun c6 => ?_) (fun c6 => ?_)
    · exact re_v hx hb hr hlocks (fun t ht hW => ⟨⟨rfl, by omega⟩, ht⟩) hS.2.2 (Nat.le_of_ble_eq_true rfl) (Nat.le_of_ble_eq_true rfl) d_C_checkPart_20
    · exact tk_throw (kl := 3) hC h0 hx hb hown xA_IO (by decide +kernel) g_318 g_316 g_13 g_547 hS (hl.1.trans hml.symm) d_C_checkPart_9 d_C_checkPart_12 (Or.inr ⟨rfl, d_C_checkPart_13⟩) d_C_checkPart_16 d_C_checkPart_19 htab hlocks (Nat.le_of_ble_eq_true rfl) (Nat.le_of_ble_eq_true rfl) (Nat.le_of_ble_eq_true rfl) (Nat.le_of_ble_eq_true rfl) (fun t hla hz ho => ⟨⟨rfl, by omega⟩, hla, hz, ho⟩) (Nat.le_of_ble_eq_true rfl) (Nat.le_of_ble_eq_true rfl)

set_option maxHeartbeats 4000000 in
set_option maxRecDepth 100000 in
theorem c_C_checkWayEnd {l : Launch} {s0 : State} {D : va_G} {k : Nat → ClassId} (hC : Cx l s0 D k) (a b : Int) (ha : In32 a) (hb9 : In32 b) : ThM l s0 y_C_checkWayEnd { frames := 7, cells := 2, slots := 12, locals := 112 } [.int (iI (a)), .int (iI (b))] (fun _ => True) (fun v => v = none ∧ (1 ≤ a ∧ a ≤ 64 ∧ 0 ≤ b ∧ b ≤ 500)) (fun E => E = xIA ∧ ¬ (1 ≤ a ∧ a ≤ 64 ∧ 0 ≤ b ∧ b ≤ 500)) 2 12 := by
  refine ex_ofW (cc := b_C_checkWayEnd) (maxL := 2) (ret := none) (hh := []) (by decide +kernel) (Or.inl ⟨g_195, rfl⟩) ?_
  intro p9 e9 s m9 args9 below9 meth9 c9 s9 B9 hml htab hv
  obtain ⟨rfl, h0, hP⟩ := hv
  have hx := B9.exec
  have hb := B9.bytes
  have hr := B9.returns
  have hG := atoms_spec (ws := GW) B9.pre
  have hown : s.vm.findClass "LathePieces" = some m9.cls := findClass_of_methodNamed B9.named
  have hlocks := B9.notSynchronized
  have hK := cx_K hC h0
  have hS : va_S (aL s0) s.heap s.heap [] := va_S.rf
  have hl := lv_entry ([.int (iI (a)), .int (iI (b))]) (n := 2) (Nat.le_of_ble_eq_true rfl)
  rw [lg_entry_eq]
  generalize (lg_sl ([.int (iI (a)), .int (iI (b))]) ++ List.replicate (2 - (lg_sl ([.int (iI (a)), .int (iI (b))])).length) Slot.unset).toArray = ls at hl ⊢
  have hl : lv_has ls 2 [(0, .int (iI (a))), (1, .int (iI (b)))] := hl
  refine lv_iload_n hx hb d_C_checkWayEnd_0 rfl (lv_at hl 0 rfl) ?_
  refine ri_iconst hx hb d_C_checkWayEnd_1 ?_
  refine ri_bipush hx hb d_C_checkWayEnd_2 (by decide) ?_
  refine th_call h0 hS htab hlocks (Nat.le_of_ble_eq_true rfl) (Nat.le_of_ble_eq_true rfl) (ex_runS (As := [.int (iI (a)), .int (iI (1)), .int (iI (64))]) (rest := []) ⟨hx, hb, hml, hown, hG⟩ (c_C_checkNumber hC a 1 64 ha (by decide) (by decide)) (cb_code (n := 3) hG g_112 g_1 g_110 rfl rfl (by decide +kernel) ⟨Nat.le_of_ble_eq_true rfl, Nat.le_of_ble_eq_true rfl⟩) (hG _ g_111) ⟨fun _ _ _ _ q => q, fun U hU hW => ⟨rfl, la_next h0 (fun _ z => z) hS U hU hW, trivial⟩⟩ rfl rfl hl.1 rfl (lv_room (Nat.le_of_ble_eq_true rfl)) d_C_checkWayEnd_4 ⟨Nat.le_of_ble_eq_true rfl, Nat.le_of_ble_eq_true rfl⟩) (fun E hE t hla hz ho => ⟨⟨hE.1, fun q => hE.2 ⟨by omega, by omega⟩⟩, hla, hz, ho⟩) (fun v9 h9 locs hS => ?_)
  obtain ⟨rfl, q1, q2⟩ := h9
  show W _ _ _ _ _ _ _ _ _ _ _ _ _ _ _ (F0 m9 7 ls [])
  refine lv_iload_n hx hb d_C_checkWayEnd_7 rfl (lv_at hl 1 rfl) ?_
  refine ri_iconst hx hb d_C_checkWayEnd_8 ?_
  refine ri_sipush hx hb d_C_checkWayEnd_9 (by decide) ?_
  refine th_call h0 hS htab hlocks (Nat.le_of_ble_eq_true rfl) (Nat.le_of_ble_eq_true rfl) (ex_runS (As := [.int (iI (b)), .int (iI (0)), .int (iI (500))]) (rest := []) ⟨hx, hb, hml, hown, hG⟩ (c_C_checkNumber hC b 0 500 hb9 (by decide) (by decide)) (cb_code (n := 3) hG g_112 g_1 g_110 rfl rfl (by decide +kernel) ⟨Nat.le_of_ble_eq_true rfl, Nat.le_of_ble_eq_true rfl⟩) (hG _ g_111) ⟨fun _ _ _ _ q => q, fun U hU hW => ⟨rfl, la_next h0 (fun _ z => z) hS U hU hW, trivial⟩⟩ rfl rfl hl.1 rfl (lv_room (Nat.le_of_ble_eq_true rfl)) d_C_checkWayEnd_12 ⟨Nat.le_of_ble_eq_true rfl, Nat.le_of_ble_eq_true rfl⟩) (fun E hE t hla hz ho => ⟨⟨hE.1, fun q => hE.2 ⟨by omega, by omega⟩⟩, hla, hz, ho⟩) (fun v9 h9 locs hS => ?_)
  obtain ⟨rfl, q3, q4⟩ := h9
  show W _ _ _ _ _ _ _ _ _ _ _ _ _ _ _ (F0 m9 15 ls [])
  exact re_v hx hb hr hlocks (fun t ht hW => ⟨⟨rfl, by omega⟩, ht⟩) hS.2.2 (Nat.le_of_ble_eq_true rfl) (Nat.le_of_ble_eq_true rfl) d_C_checkWayEnd_15

set_option maxHeartbeats 4000000 in
set_option maxRecDepth 100000 in
theorem c_C_checkRough {l : Launch} {s0 : State} {D : va_G} {k : Nat → ClassId} (hC : Cx l s0 D k) (a b : Int) (ha : In32 a) (hb9 : In32 b) : ThM l s0 y_C_checkRough { frames := 7, cells := 2, slots := 12, locals := 112 } [.int (iI (a)), .int (iI (b))] (fun _ => True) (fun v => v = none ∧ (1 ≤ a ∧ a ≤ 100 ∧ 0 ≤ b ∧ b ≤ 50)) (fun E => E = xIA ∧ ¬ (1 ≤ a ∧ a ≤ 100 ∧ 0 ≤ b ∧ b ≤ 50)) 2 12 := by
  refine ex_ofW (cc := b_C_checkRough) (maxL := 2) (ret := none) (hh := []) (by decide +kernel) (Or.inl ⟨g_418, rfl⟩) ?_
  intro p9 e9 s m9 args9 below9 meth9 c9 s9 B9 hml htab hv
  obtain ⟨rfl, h0, hP⟩ := hv
  have hx := B9.exec
  have hb := B9.bytes
  have hr := B9.returns
  have hG := atoms_spec (ws := GW) B9.pre
  have hown : s.vm.findClass "LathePieces" = some m9.cls := findClass_of_methodNamed B9.named
  have hlocks := B9.notSynchronized
  have hK := cx_K hC h0
  have hS : va_S (aL s0) s.heap s.heap [] := va_S.rf
  have hl := lv_entry ([.int (iI (a)), .int (iI (b))]) (n := 2) (Nat.le_of_ble_eq_true rfl)
  rw [lg_entry_eq]
  generalize (lg_sl ([.int (iI (a)), .int (iI (b))]) ++ List.replicate (2 - (lg_sl ([.int (iI (a)), .int (iI (b))])).length) Slot.unset).toArray = ls at hl ⊢
  have hl : lv_has ls 2 [(0, .int (iI (a))), (1, .int (iI (b)))] := hl
  refine lv_iload_n hx hb d_C_checkRough_0 rfl (lv_at hl 0 rfl) ?_
  refine ri_iconst hx hb d_C_checkRough_1 ?_
  refine ri_bipush hx hb d_C_checkRough_2 (by decide) ?_
  refine th_call h0 hS htab hlocks (Nat.le_of_ble_eq_true rfl) (Nat.le_of_ble_eq_true rfl) (ex_runS (As := [.int (iI (a)), .int (iI (1)), .int (iI (100))]) (rest := []) ⟨hx, hb, hml, hown, hG⟩ (c_C_checkNumber hC a 1 100 ha (by decide) (by decide)) (cb_code (n := 3) hG g_112 g_1 g_110 rfl rfl (by decide +kernel) ⟨Nat.le_of_ble_eq_true rfl, Nat.le_of_ble_eq_true rfl⟩) (hG _ g_111) ⟨fun _ _ _ _ q => q, fun U hU hW => ⟨rfl, la_next h0 (fun _ z => z) hS U hU hW, trivial⟩⟩ rfl rfl hl.1 rfl (lv_room (Nat.le_of_ble_eq_true rfl)) d_C_checkRough_4 ⟨Nat.le_of_ble_eq_true rfl, Nat.le_of_ble_eq_true rfl⟩) (fun E hE t hla hz ho => ⟨⟨hE.1, fun q => hE.2 ⟨by omega, by omega⟩⟩, hla, hz, ho⟩) (fun v9 h9 locs hS => ?_)
  obtain ⟨rfl, q1, q2⟩ := h9
  show W _ _ _ _ _ _ _ _ _ _ _ _ _ _ _ (F0 m9 7 ls [])
  refine lv_iload_n hx hb d_C_checkRough_7 rfl (lv_at hl 1 rfl) ?_
  refine ri_iconst hx hb d_C_checkRough_8 ?_
  refine ri_bipush hx hb d_C_checkRough_9 (by decide) ?_
  refine th_call h0 hS htab hlocks (Nat.le_of_ble_eq_true rfl) (Nat.le_of_ble_eq_true rfl) (ex_runS (As := [.int (iI (b)), .int (iI (0)), .int (iI (50))]) (rest := []) ⟨hx, hb, hml, hown, hG⟩ (c_C_checkNumber hC b 0 50 hb9 (by decide) (by decide)) (cb_code (n := 3) hG g_112 g_1 g_110 rfl rfl (by decide +kernel) ⟨Nat.le_of_ble_eq_true rfl, Nat.le_of_ble_eq_true rfl⟩) (hG _ g_111) ⟨fun _ _ _ _ q => q, fun U hU hW => ⟨rfl, la_next h0 (fun _ z => z) hS U hU hW, trivial⟩⟩ rfl rfl hl.1 rfl (lv_room (Nat.le_of_ble_eq_true rfl)) d_C_checkRough_11 ⟨Nat.le_of_ble_eq_true rfl, Nat.le_of_ble_eq_true rfl⟩) (fun E hE t hla hz ho => ⟨⟨hE.1, fun q => hE.2 ⟨by omega, by omega⟩⟩, hla, hz, ho⟩) (fun v9 h9 locs hS => ?_)
  obtain ⟨rfl, q3, q4⟩ := h9
  show W _ _ _ _ _ _ _ _ _ _ _ _ _ _ _ (F0 m9 14 ls [])
  exact re_v hx hb hr hlocks (fun t ht hW => ⟨⟨rfl, by omega⟩, ht⟩) hS.2.2 (Nat.le_of_ble_eq_true rfl) (Nat.le_of_ble_eq_true rfl) d_C_checkRough_14
end
section
/-! Loops as functions: what the document's terms are. -/
/-- op over f lo, f (lo + 1), .., n of them, from a on -/
def itF (op : Int → Int → Int) (f : Int → Int) (a lo : Int) : Nat → Int
  | 0 => a
  | n + 1 => op (itF op f a lo n) (f (lo + n))
theorem itF_s (op : Int → Int → Int) (f : Int → Int) (a lo : Int) (n : Nat) : itF op f a lo (n + 1) = op (itF op f a lo n) (f (lo + n)) := rfl
theorem itF_congr {op : Int → Int → Int} {f f' : Int → Int} {a lo : Int} (n : Nat) (h : ∀ j : Int, lo ≤ j → j < lo + n → f j = f' j) : itF op f a lo n = itF op f' a lo n := by
  induction n with
  | zero => rfl
  | succ n ih => rw [itF_s, itF_s, ih (fun j h1 h2 => h j h1 (by omega)), h (lo + n) (by omega) (by omega)]
/-- a bound that the start and all f keep -/
theorem itF_rg {op : Int → Int → Int} {f : Int → Int} {a lo : Int} {P : Int → Prop} (n : Nat) (h0 : P a) (hs : ∀ x j : Int, P x → lo ≤ j → j < lo + n → P (op x (f j))) : P (itF op f a lo n) := by
  induction n with
  | zero => exact h0
  | succ n ih => exact hs _ _ (ih (fun x j hx h1 h2 => hs x j hx h1 (by omega))) (by omega) (by omega)
theorem itF_max {f : Int → Int} {a lo b : Int} (n : Nat) (h0 : 0 ≤ a ∧ a ≤ b) (h : ∀ j : Int, lo ≤ j → j < lo + n → f j ≤ b) : 0 ≤ itF max f a lo n ∧ itF max f a lo n ≤ b :=
  itF_rg (P := fun x => 0 ≤ x ∧ x ≤ b) n h0 (fun x j hx h1 h2 => by have := h j h1 h2; omega)
theorem itF_min {f : Int → Int} {a lo b c : Int} (n : Nat) (h0 : c ≤ a ∧ a ≤ b) (h : ∀ j : Int, lo ≤ j → j < lo + n → c ≤ f j) : c ≤ itF min f a lo n ∧ itF min f a lo n ≤ b :=
  itF_rg (P := fun x => c ≤ x ∧ x ≤ b) n h0 (fun x j hx h1 h2 => by have := h j h1 h2; omega)
/-- a count: how many of the n places from lo on -/
def cnF (P : Int → Bool) (lo : Int) (n : Nat) : Int := itF (fun a b => a + b) (fun j => if P j then 1 else 0) 0 lo n
theorem cnF_s (P : Int → Bool) (lo : Int) (n : Nat) : cnF P lo (n + 1) = cnF P lo n + if P (lo + n) then 1 else 0 := rfl
theorem cnF_rg (P : Int → Bool) (lo : Int) (n : Nat) : 0 ≤ cnF P lo n ∧ cnF P lo n ≤ n := by
  induction n with
  | zero => exact ⟨Int.le_refl _, Int.le_refl _⟩
  | succ n ih => rw [cnF_s]; split <;> omega
/-- HOLLOW: places from n - 1 down that reach t -/
def hoF (r : Int → Int) (t : Int) : Nat → Int
  | 0 => 0
  | n + 1 => if t ≤ r n then 1 + hoF r t n else 0
theorem hoF_rg (r : Int → Int) (t : Int) (n : Nat) : 0 ≤ hoF r t n ∧ hoF r t n ≤ n := by
  induction n with
  | zero => exact ⟨Int.le_refl _, Int.le_refl _⟩
  | succ n ih => rw [hoF]; split <;> omega
/-- the least radius of places p .. p + n -/
def lmF (r : Int → Int) (p : Int) (n : Nat) : Int := itF min r (r p) (p + 1) n
theorem lmF_s (r : Int → Int) (p : Int) (n : Nat) : lmF r p (n + 1) = min (lmF r p n) (r (p + 1 + n)) := rfl
/-- the next held place, n places looked at -/
def nhF (r : Int → Int) (span p : Int) : Nat → Int
  | 0 => p + 1
  | n + 1 => if (n + 1) * span ≤ lmF r p (n + 1) then p + 1 + n else nhF r span p n
theorem nhF_no {r : Int → Int} {span p : Int} (hs : 0 ≤ span) {n : Nat} (h : ¬ ((n : Int) + 1) * span ≤ lmF r p (n + 1)) (m : Nat) : nhF r span p (n + 1 + m) = nhF r span p n ∧ ¬ ((n : Int) + 1 + m) * span ≤ lmF r p (n + 1 + m) := by
  induction m with
  | zero => exact ⟨by rw [Nat.add_zero, nhF, if_neg h], by simpa using h⟩
  | succ m ih =>
    have h2 : ¬ ((n : Int) + 1 + (m + 1 : Nat)) * span ≤ lmF r p (n + 1 + (m + 1)) := by
      intro q
      refine ih.2 ?_
      have e1 : lmF r p (n + 1 + (m + 1)) ≤ lmF r p (n + 1 + m) := by
        rw [show n + 1 + (m + 1) = (n + 1 + m) + 1 by omega, lmF_s]
        omega
      have e2 : ((n : Int) + 1 + m) * span ≤ ((n : Int) + 1 + (m + 1 : Nat)) * span := Int.mul_le_mul_of_nonneg_right (by omega) hs
      omega
    refine ⟨?_, h2⟩
    rw [show n + 1 + (m + 1) = (n + 1 + m) + 1 by omega, nhF, if_neg ?_, ih.1]
    rw [show ((n + 1 + m : Nat) : Int) + 1 = (n : Int) + 1 + (m + 1 : Nat) by omega]
    exact h2
theorem nhF_rg (r : Int → Int) (span p : Int) (n : Nat) : p + 1 ≤ nhF r span p n ∧ nhF r span p n ≤ p + 1 + n := by
  induction n with
  | zero => exact ⟨Int.le_refl _, by show p + 1 ≤ _; omega⟩
  | succ n ih => rw [nhF]; split <;> omega
end
section
set_option maxHeartbeats 4000000 in
set_option maxRecDepth 100000 in
theorem c_P_lastPlacesFrom {l : Launch} {s0 : State} {D : va_G} {k : Nat → ClassId} (hC : Cx l s0 D k) (ap ar L : Nat) (r : Int → Int) (bl wy : Int) (hL : L ≤ 64) (hrr : ∀ j : Int, 0 ≤ j → j ≤ L → 0 ≤ r j ∧ r j ≤ 500) (t9 : Int) (ht9 : In32 t9) : RdM l s0 y_P_lastPlacesFrom { frames := 0, cells := 0, slots := 0, locals := 0 } [.ref ap, .int (iI (t9))] (fun H => va_P D classes ([(ap, .inr (1, [.ref ar, .int (iI ((L : Int))), .int (iI (bl)), .int (iI (wy))])), (ar, .inl (k 0, ai (L + 1) r))]) H) (fun v => v = some (.int (iI (hoF r t9 (L + 1))))) := by
  refine ex_ofW (cc := b_P_lastPlacesFrom) (maxL := 4) (ret := (some .int)) (hh := []) (by decide +kernel) (Or.inl ⟨g_477, rfl⟩) ?_
  intro p9 e9 s m9 args9 below9 meth9 c9 s9 B9 hml htab hv
  obtain ⟨rfl, h0, hP⟩ := hv
  have hx := B9.exec
  have hb := B9.bytes
  have hr := B9.returns
  have hG := atoms_spec (ws := GW) B9.pre
  have hown : s.vm.findClass "LathePieces$Piece" = some m9.cls := findClass_of_methodNamed B9.named
  have hlocks := B9.notSynchronized
  have hK := cx_K hC h0
  have hS : va_S (aL s0) s.heap s.heap [] := va_S.rf
  have hl := lv_entry ([.ref ap, .int (iI (t9))]) (n := 4) (Nat.le_of_ble_eq_true rfl)
  rw [lg_entry_eq]
  generalize (lg_sl ([.ref ap, .int (iI (t9))]) ++ List.replicate (4 - (lg_sl ([.ref ap, .int (iI (t9))])).length) Slot.unset).toArray = ls at hl ⊢
  replace hl : lv_has ls 4 [(0, .ref ap), (1, .int (iI (t9)))] := hl
  refine ri_iconst hx hb d_P_lastPlacesFrom_0 ?_
  refine lv_istore_n (lv' := [(2, .int (iI (0))), (0, .ref ap), (1, .int (iI (t9)))]) hx hb d_P_lastPlacesFrom_1 rfl hl (by decide) rfl (fun ls hl => ?_)
  refine lv_aload_n hx hb d_P_lastPlacesFrom_2 rfl (lv_at hl 1 rfl) ?_
  refine va_get (D := D) (ci := 1) (v := .int (iI ((L : Int)))) (C := R_P) (T := F_P) (N := 4) hx hb hG in_P hown hK hP 0 rfl rfl 1 (by decide) (hG _ g_285) (fun _ h9 => h9) rfl d_P_lastPlacesFrom_3 ?_
  refine lv_istore_n (lv' := [(3, .int (iI ((L : Int)))), (2, .int (iI (0))), (0, .ref ap), (1, .int (iI (t9)))]) hx hb d_P_lastPlacesFrom_6 rfl hl (by decide) rfl (fun ls hl => ?_)
  have e0 : ((L : Nat) : Int) = ((L + 1 : Nat) : Int) - 1 := by omega
  rw [e0] at hl
  obtain ⟨κ, q, hinv, hl1⟩ : ∃ (κ : Nat) (q : Int), (κ ≤ L + 1 ∧ q + hoF r t9 κ = hoF r t9 (L + 1) ∧ 0 ≤ q ∧ q + κ ≤ (L : Int) + 1) ∧ lv_has ls 4 [(0, .ref ap), (1, .int (iI (t9))), (2, .int (iI (q))), (3, .int (iI ((κ : Int) - 1)))] := ⟨L + 1, 0, ⟨Nat.le_refl _, by omega, by omega, by omega⟩, lv_sub hl [2, 3, 1, 0] rfl⟩
  clear hl
  have hl := hl1
  clear hl1
  induction κ generalizing q ls with
  | zero =>
    obtain ⟨h1, h2, h3, h4⟩ := hinv
    refine lv_iload_n hx hb d_P_lastPlacesFrom_7 rfl (lv_at hl 3 rfl) ?_
    refine ri_if_lt (tgt := 30) hx hb d_P_lastPlacesFrom_8 (by decide) (by omega) (fun c8 => ?_) (fun c8 => ?_)
    · refine lv_iload_n hx hb d_P_lastPlacesFrom_30 rfl (lv_at hl 2 rfl) ?_
      exact re_i hx hb hr hlocks (fun t ht hW => ⟨by rw [show q = hoF r t9 (L + 1) by rw [← h2, hoF]; omega], ht⟩) (fun z hz => nomatch hz) (Nat.le_of_ble_eq_true rfl) (Nat.le_of_ble_eq_true rfl) d_P_lastPlacesFrom_31
    · exact absurd c8 (by omega)
  | succ κ ih =>
    obtain ⟨h1, h2, h3, h4⟩ := hinv
    have h5 := hoF_rg r t9 κ
    have h6 := hrr κ (by omega) (by omega)
    rw [hoF] at h2
    rw [show ((κ + 1 : Nat) : Int) - 1 = (κ : Int) by omega] at hl
    refine lv_iload_n hx hb d_P_lastPlacesFrom_7 rfl (lv_at hl 3 rfl) ?_
    refine ri_if_lt (tgt := 30) hx hb d_P_lastPlacesFrom_8 (by decide) (by omega) (fun c8 => ?_) (fun c8 => ?_)
    · exact absurd c8 (by omega)
    · refine lv_aload_n hx hb d_P_lastPlacesFrom_11 rfl (lv_at hl 0 rfl) ?_
      refine va_get (D := D) (ci := 1) (v := .ref ar) (C := R_P) (T := F_P) (N := 4) hx hb hG in_P hown hK hP 0 rfl rfl 0 (by decide) (hG _ g_283) (fun _ h9 => h9) rfl d_P_lastPlacesFrom_12 ?_
      refine lv_iload_n hx hb d_P_lastPlacesFrom_15 rfl (lv_at hl 3 rfl) ?_
      refine ra_iald hx hb hK hP 1 rfl (by omega) (by omega) d_P_lastPlacesFrom_16 ?_
      refine lv_iload_n hx hb d_P_lastPlacesFrom_17 rfl (lv_at hl 1 rfl) ?_
      refine ri_icmp_lt (tgt := 30) hx hb d_P_lastPlacesFrom_18 (by decide) (by omega) (by omega) (fun c18 => ?_) (fun c18 => ?_)
      · rw [if_neg (by omega)] at h2
        refine lv_iload_n hx hb d_P_lastPlacesFrom_30 rfl (lv_at hl 2 rfl) ?_
        exact re_i hx hb hr hlocks (fun t ht hW => ⟨by rw [show q = hoF r t9 (L + 1) by omega], ht⟩) (fun z hz => nomatch hz) (Nat.le_of_ble_eq_true rfl) (Nat.le_of_ble_eq_true rfl) d_P_lastPlacesFrom_31
      · rw [if_pos (by omega)] at h2
        refine lv_iinc (v := iI (q + 1)) (lv' := [(2, .int (iI (q + 1))), (0, .ref ap), (1, .int (iI (t9))), (3, .int (iI ((κ : Int))))]) hx hb d_P_lastPlacesFrom_21 hl (k := 2) rfl (ii_add _ _) (by decide) rfl (fun ls hl => ?_)
        refine lv_iinc (v := iI ((κ : Int) + (-1))) (lv' := [(3, .int (iI ((κ : Int) + (-1)))), (2, .int (iI (q + 1))), (0, .ref ap), (1, .int (iI (t9)))]) hx hb d_P_lastPlacesFrom_24 hl (k := 3) rfl (ii_add _ _) (by decide) rfl (fun ls hl => ?_)
        refine lv_goto (tgt := 7) hx hb d_P_lastPlacesFrom_27 (by decide) ?_
        exact ih ls (q + 1) ⟨by omega, by omega, by omega, by omega⟩ (lv_sub hl [2, 3, 1, 0] rfl)

set_option maxHeartbeats 4000000 in
set_option maxRecDepth 100000 in
theorem c_P_heldBehind {l : Launch} {s0 : State} {D : va_G} {k : Nat → ClassId} (hC : Cx l s0 D k) (ap ar L : Nat) (r : Int → Int) (bl wy : Int) (hL : L ≤ 64) (hrr : ∀ j : Int, 0 ≤ j → j ≤ L → 0 ≤ r j ∧ r j ≤ 500) (p0 sp : Int) (hp0 : 0 ≤ p0 ∧ p0 < L) (hsp : 1 ≤ sp ∧ sp ≤ 500) : RdM l s0 y_P_heldBehind { frames := 1, cells := 0, slots := 0, locals := 21 } [.ref ap, .int (iI (p0)), .int (iI (sp))] (fun H => va_P D classes ([(ap, .inr (1, [.ref ar, .int (iI ((L : Int))), .int (iI (bl)), .int (iI (wy))])), (ar, .inl (k 0, ai (L + 1) r))]) H) (fun v => v = some (.int (iI (nhF r sp p0 (L - p0).toNat)))) := by
  refine ex_ofW (cc := b_P_heldBehind) (maxL := 6) (ret := (some .int)) (hh := []) (by decide +kernel) (Or.inl ⟨g_450, rfl⟩) ?_
  intro p9 e9 s m9 args9 below9 meth9 c9 s9 B9 hml htab hv
  obtain ⟨rfl, h0, hP⟩ := hv
  have hx := B9.exec
  have hb := B9.bytes
  have hr := B9.returns
  have hG := atoms_spec (ws := GW) B9.pre
  have hown : s.vm.findClass "LathePieces$Piece" = some m9.cls := findClass_of_methodNamed B9.named
  have hlocks := B9.notSynchronized
  have hK := cx_K hC h0
  have hS : va_S (aL s0) s.heap s.heap [] := va_S.rf
  have hl := lv_entry ([.ref ap, .int (iI (p0)), .int (iI (sp))]) (n := 6) (Nat.le_of_ble_eq_true rfl)
  rw [lg_entry_eq]
  generalize (lg_sl ([.ref ap, .int (iI (p0)), .int (iI (sp))]) ++ List.replicate (6 - (lg_sl ([.ref ap, .int (iI (p0)), .int (iI (sp))])).length) Slot.unset).toArray = ls at hl ⊢
  replace hl : lv_has ls 6 [(0, .ref ap), (1, .int (iI (p0))), (2, .int (iI (sp)))] := hl
  refine lv_iload_n hx hb d_P_heldBehind_0 rfl (lv_at hl 1 rfl) ?_
  refine ri_iconst hx hb d_P_heldBehind_1 ?_
  refine ri_iadd hx hb d_P_heldBehind_2 ?_
  refine lv_istore_n (lv' := [(3, .int (iI (p0 + 1))), (0, .ref ap), (1, .int (iI (p0))), (2, .int (iI (sp)))]) hx hb d_P_heldBehind_3 rfl hl (by decide) rfl (fun ls hl => ?_)
  refine lv_aload_n hx hb d_P_heldBehind_4 rfl (lv_at hl 1 rfl) ?_
  refine va_get (D := D) (ci := 1) (v := .ref ar) (C := R_P) (T := F_P) (N := 4) hx hb hG in_P hown hK hP 0 rfl rfl 0 (by decide) (hG _ g_283) (fun _ h9 => h9) rfl d_P_heldBehind_5 ?_
  have q0 := hrr p0 hp0.1 (by omega)
  refine lv_iload_n hx hb d_P_heldBehind_8 rfl (lv_at hl 2 rfl) ?_
  refine ra_iald hx hb hK hP 1 rfl (by omega) (by omega) d_P_heldBehind_9 ?_
  refine lv_istore (lv' := [(4, .int (iI (r (p0)))), (3, .int (iI (p0 + 1))), (0, .ref ap), (1, .int (iI (p0))), (2, .int (iI (sp)))]) hx hb d_P_heldBehind_10 hl (by decide) rfl (fun ls hl => ?_)
  refine lv_iload_n hx hb d_P_heldBehind_12 rfl (lv_at hl 3 rfl) ?_
  refine ri_iconst hx hb d_P_heldBehind_13 ?_
  refine ri_iadd hx hb d_P_heldBehind_14 ?_
  refine lv_istore (lv' := [(5, .int (iI (p0 + 1))), (4, .int (iI (r (p0)))), (3, .int (iI (p0 + 1))), (0, .ref ap), (1, .int (iI (p0))), (2, .int (iI (sp)))]) hx hb d_P_heldBehind_15 hl (by decide) rfl (fun ls hl => ?_)
  have e0 : p0 + 1 = p0 + 1 + ((0 : Nat) : Int) := by omega
  replace hl : lv_has ls 6 [(5, .int (iI (p0 + 1 + ((0 : Nat) : Int)))), (4, .int (iI (lmF r p0 0))), (3, .int (iI (nhF r sp p0 0))), (0, .ref ap), (1, .int (iI (p0))), (2, .int (iI (sp)))] := by rw [← e0]; exact hl
  obtain ⟨κ, ν, hinv, hl1⟩ : ∃ (κ : Nat) (ν : Nat), ((ν : Int) + κ = L - p0) ∧ lv_has ls 6 [(0, .ref ap), (1, .int (iI (p0))), (2, .int (iI (sp))), (3, .int (iI (nhF r sp p0 ν))), (4, .int (iI (lmF r p0 ν))), (5, .int (iI (p0 + 1 + (ν : Int))))] := ⟨(L - p0).toNat, 0, (by omega), lv_sub hl [3, 4, 5, 2, 1, 0] rfl⟩
  clear hl
  have hl := hl1
  clear hl1
  induction κ generalizing ν ls with
  | zero =>
    obtain h1 := hinv
    refine lv_iload hx hb d_P_heldBehind_17 (lv_at hl 5 rfl) ?_
    refine lv_aload_n hx hb d_P_heldBehind_19 rfl (lv_at hl 0 rfl) ?_
    refine va_get (D := D) (ci := 1) (v := .int (iI ((L : Int)))) (C := R_P) (T := F_P) (N := 4) hx hb hG in_P hown hK hP 0 rfl rfl 1 (by decide) (hG _ g_285) (fun _ h9 => h9) rfl d_P_heldBehind_20 ?_
    refine ri_icmp_gt (tgt := 63) hx hb d_P_heldBehind_23 (by decide) (by omega) (by omega) (fun c23 => ?_) (fun c23 => ?_)
    · refine lv_iload_n hx hb d_P_heldBehind_63 rfl (lv_at hl 3 rfl) ?_
      exact re_i hx hb hr hlocks (fun t ht hW => ⟨by rw [show (L - p0).toNat = ν by omega], ht⟩) (fun z hz => nomatch hz) (Nat.le_of_ble_eq_true rfl) (Nat.le_of_ble_eq_true rfl) d_P_heldBehind_64
    · exact absurd c23 (by omega)
  | succ κ ih =>
    obtain h1 := hinv
    have q1 := hrr (p0 + 1 + ν) (by omega) (by omega)
    have q2 : 0 ≤ lmF r p0 ν ∧ lmF r p0 ν ≤ 500 := itF_min ν ⟨q0.1, q0.2⟩ (fun j g1 g2 => (hrr j (by omega) (by omega)).1)
    have q3 : ((ν : Int) + 1) * sp ≤ 64 * 500 := Int.mul_le_mul (by omega) (by omega) (by omega) (by decide)
    have q4 : 0 ≤ ((ν : Int) + 1) * sp := Int.mul_nonneg (by omega) (by omega)
    have q5 : (p0 + 1 + ν - p0) * sp = ((ν : Int) + 1) * sp := by rw [show p0 + 1 + ν - p0 = (ν : Int) + 1 by omega]
    refine lv_iload hx hb d_P_heldBehind_17 (lv_at hl 5 rfl) ?_
    refine lv_aload_n hx hb d_P_heldBehind_19 rfl (lv_at hl 0 rfl) ?_
    refine va_get (D := D) (ci := 1) (v := .int (iI ((L : Int)))) (C := R_P) (T := F_P) (N := 4) hx hb hG in_P hown hK hP 0 rfl rfl 1 (by decide) (hG _ g_285) (fun _ h9 => h9) rfl d_P_heldBehind_20 ?_
    refine ri_icmp_gt (tgt := 63) hx hb d_P_heldBehind_23 (by decide) (by omega) (by omega) (fun c23 => ?_) (fun c23 => ?_)
    · exact absurd c23 (by omega)
    · refine lv_iload hx hb d_P_heldBehind_26 (lv_at hl 4 rfl) ?_
      refine lv_aload_n hx hb d_P_heldBehind_28 rfl (lv_at hl 0 rfl) ?_
      refine va_get (D := D) (ci := 1) (v := .ref ar) (C := R_P) (T := F_P) (N := 4) hx hb hG in_P hown hK hP 0 rfl rfl 0 (by decide) (hG _ g_283) (fun _ h9 => h9) rfl d_P_heldBehind_29 ?_
      refine lv_iload hx hb d_P_heldBehind_32 (lv_at hl 5 rfl) ?_
      refine ra_iald hx hb hK hP 1 rfl (by omega) (by omega) d_P_heldBehind_34 ?_
      refine rd_call (ex_runS (As := [.int (iI (lmF r p0 ν)), .int (iI (r (p0 + 1 + (ν : Int))))]) (rest := []) ⟨hx, hb, hml, hown, hG⟩ (c_J_min l (lmF r p0 ν) (r (p0 + 1 + ν)) (by omega) (by omega)) (cb_code (n := 2) hG g_251 g_9 g_451 rfl rfl (by decide +kernel) ⟨Nat.le_of_ble_eq_true rfl, Nat.le_of_ble_eq_true rfl⟩) (hG _ g_250) ⟨fun _ _ _ _ q => q, fun _ _ _ => rfl⟩ rfl rfl hl.1 rfl (lv_room (Nat.le_of_ble_eq_true rfl)) d_P_heldBehind_35 ⟨Nat.le_of_ble_eq_true rfl, Nat.le_of_ble_eq_true rfl⟩) (fun v9 h9 => ?_)
      obtain rfl := h9
      show W _ _ _ _ _ _ _ _ _ _ _ _ _ _ _ (F0 m9 38 ls [.int (iI (lmF r p0 (ν + 1)))])
      refine lv_istore (lv' := [(4, .int (iI (lmF r p0 (ν + 1)))), (0, .ref ap), (1, .int (iI (p0))), (2, .int (iI (sp))), (3, .int (iI (nhF r sp p0 ν))), (5, .int (iI (p0 + 1 + (ν : Int))))]) hx hb d_P_heldBehind_38 hl (by decide) rfl (fun ls hl => ?_)
      refine lv_iload hx hb d_P_heldBehind_40 (lv_at hl 5 rfl) ?_
      refine lv_iload_n hx hb d_P_heldBehind_42 rfl (lv_at hl 2 rfl) ?_
      refine ri_isub hx hb d_P_heldBehind_43 ?_
      refine lv_iload_n hx hb d_P_heldBehind_44 rfl (lv_at hl 3 rfl) ?_
      refine ri_imul hx hb d_P_heldBehind_45 ?_
      refine tp_i (congrArg iI (show ((p0 + 1 + (ν : Int)) - p0) * sp = ((ν : Int) + 1) * sp from q5)) ?_
      have q6 : lmF r p0 (ν + 1) = min (lmF r p0 ν) (r (p0 + 1 + ν)) := rfl
      refine lv_iload hx hb d_P_heldBehind_46 (lv_at hl 0 rfl) ?_
      refine ri_icmp_le (tgt := 54) hx hb d_P_heldBehind_48 (by decide) (by omega) (by omega) (fun c48 => ?_) (fun c48 => ?_)
      · refine lv_iload hx hb d_P_heldBehind_54 (lv_at hl 5 rfl) ?_
        refine tp_i (congrArg iI (show p0 + 1 + (ν : Int) = nhF r sp p0 (ν + 1) from by rw [nhF, if_pos c48])) ?_
        refine lv_istore_n (lv' := [(3, .int (iI (nhF r sp p0 (ν + 1)))), (4, .int (iI (lmF r p0 (ν + 1)))), (0, .ref ap), (1, .int (iI (p0))), (2, .int (iI (sp))), (5, .int (iI (p0 + 1 + (ν : Int))))]) hx hb d_P_heldBehind_56 rfl hl (by decide) rfl (fun ls hl => ?_)
        refine lv_iinc (v := iI (p0 + 1 + ((ν + 1 : Nat) : Int))) (lv' := [(5, .int (iI (p0 + 1 + ((ν + 1 : Nat) : Int)))), (3, .int (iI (nhF r sp p0 (ν + 1)))), (4, .int (iI (lmF r p0 (ν + 1)))), (0, .ref ap), (1, .int (iI (p0))), (2, .int (iI (sp)))]) hx hb d_P_heldBehind_57 hl (k := 5) rfl ((ii_add _ _).trans (congrArg iI (by omega))) (by decide) rfl (fun ls hl => ?_)
        refine lv_goto (tgt := 17) hx hb d_P_heldBehind_60 (by decide) ?_
        exact ih ls (ν + 1) (by omega) (lv_sub hl [3, 4, 5, 1, 2, 0] rfl)
      · refine lv_goto (tgt := 63) hx hb d_P_heldBehind_51 (by decide) ?_
        refine lv_iload_n hx hb d_P_heldBehind_63 rfl (lv_at hl 4 rfl) ?_
        exact re_i hx hb hr hlocks (fun t ht hW => ⟨by rw [show (L - p0).toNat = ν + 1 + κ by omega, (nhF_no (by omega) c48 κ).1], ht⟩) (fun z hz => nomatch hz) (Nat.le_of_ble_eq_true rfl) (Nat.le_of_ble_eq_true rfl) d_P_heldBehind_64

/-- the lesser or the greater of two neighbours, squared -/
def sqF (r : Int → Int) (up j : Int) : Int := if up = 0 then min (r (j - 1)) (r j) * min (r (j - 1)) (r j) else max (r (j - 1)) (r j) * max (r (j - 1)) (r j)
set_option maxHeartbeats 4000000 in
set_option maxRecDepth 100000 in
theorem c_P_sumOfSquares {l : Launch} {s0 : State} {D : va_G} {k : Nat → ClassId} (hC : Cx l s0 D k) (ap ar L : Nat) (r : Int → Int) (bl wy : Int) (hL : L ≤ 64) (hrr : ∀ j : Int, 0 ≤ j → j ≤ L → 0 ≤ r j ∧ r j ≤ 500) (up : Int) (hup : In32 up) : RdM l s0 y_P_sumOfSquares { frames := 1, cells := 0, slots := 0, locals := 21 } [.ref ap, .int (iI (up))] (fun H => va_P D classes ([(ap, .inr (1, [.ref ar, .int (iI ((L : Int))), .int (iI (bl)), .int (iI (wy))])), (ar, .inl (k 0, ai (L + 1) r))]) H) (fun v => v = some (.long (jJ (itF (fun a b => a + b) (sqF r up) 0 1 L)))) := by
  refine ex_ofW (cc := b_P_sumOfSquares) (maxL := 7) (ret := (some .long)) (hh := []) (by decide +kernel) (Or.inl ⟨g_463, rfl⟩) ?_
  intro p9 e9 s m9 args9 below9 meth9 c9 s9 B9 hml htab hv
  obtain ⟨rfl, h0, hP⟩ := hv
  have hx := B9.exec
  have hb := B9.bytes
  have hr := B9.returns
  have hG := atoms_spec (ws := GW) B9.pre
  have hown : s.vm.findClass "LathePieces$Piece" = some m9.cls := findClass_of_methodNamed B9.named
  have hlocks := B9.notSynchronized
  have hK := cx_K hC h0
  have hS : va_S (aL s0) s.heap s.heap [] := va_S.rf
  have hl := lv_entry ([.ref ap, .int (iI (up))]) (n := 7) (Nat.le_of_ble_eq_true rfl)
  rw [lg_entry_eq]
  generalize (lg_sl ([.ref ap, .int (iI (up))]) ++ List.replicate (7 - (lg_sl ([.ref ap, .int (iI (up))])).length) Slot.unset).toArray = ls at hl ⊢
  replace hl : lv_has ls 7 [(0, .ref ap), (1, .int (iI (up)))] := hl
  refine ri_lconst (z := 0) hx hb d_P_sumOfSquares_0 rfl ?_
  refine lv_lstore_n (lv' := [(2, .long (jJ (0))), (0, .ref ap), (1, .int (iI (up)))]) hx hb d_P_sumOfSquares_1 rfl hl (by decide) rfl (fun ls hl => ?_)
  refine ri_iconst hx hb d_P_sumOfSquares_2 ?_
  refine lv_istore (lv' := [(4, .int (iI (1))), (2, .long (jJ (0))), (0, .ref ap), (1, .int (iI (up)))]) hx hb d_P_sumOfSquares_3 hl (by decide) rfl (fun ls hl => ?_)
  replace hl : lv_has ls 7 [(4, .int (iI (1 + ((0 : Nat) : Int)))), (2, .long (jJ (itF (fun a b => a + b) (sqF r up) 0 1 0))), (0, .ref ap), (1, .int (iI (up)))] := hl
  obtain ⟨κ, ν, hinv, hl1⟩ : ∃ (κ : Nat) (ν : Nat), ((ν : Int) + κ = L) ∧ lv_has ls 7 [(0, .ref ap), (1, .int (iI (up))), (2, .long (jJ (itF (fun a b => a + b) (sqF r up) 0 1 ν))), (4, .int (iI (1 + (ν : Int))))] := ⟨L, 0, (by omega), lv_sub hl [2, 3, 1, 0] rfl⟩
  clear hl
  have hl := hl1
  clear hl1
  induction κ generalizing ν ls with
  | zero =>
    obtain h1 := hinv
    refine lv_iload hx hb d_P_sumOfSquares_5 (lv_at hl 3 rfl) ?_
    refine lv_aload_n hx hb d_P_sumOfSquares_7 rfl (lv_at hl 0 rfl) ?_
    refine va_get (D := D) (ci := 1) (v := .int (iI ((L : Int)))) (C := R_P) (T := F_P) (N := 4) hx hb hG in_P hown hK hP 0 rfl rfl 1 (by decide) (hG _ g_285) (fun _ h9 => h9) rfl d_P_sumOfSquares_8 ?_
    refine ri_icmp_gt (tgt := 77) hx hb d_P_sumOfSquares_11 (by decide) (by omega) (by omega) (fun c11 => ?_) (fun c11 => ?_)
    · refine lv_lload_n hx hb d_P_sumOfSquares_77 rfl (lv_at hl 2 rfl) ?_
      exact re_l hx hb hr hlocks (fun t ht hW => ⟨by rw [show L = ν by omega], ht⟩) (fun z hz => nomatch hz) (Nat.le_of_ble_eq_true rfl) (Nat.le_of_ble_eq_true rfl) d_P_sumOfSquares_78
    · exact absurd c11 (by omega)
  | succ κ ih =>
    obtain h1 := hinv
    have q1 := hrr ν (by omega) (by omega)
    have q2 := hrr (1 + ν) (by omega) (by omega)
    refine lv_iload hx hb d_P_sumOfSquares_5 (lv_at hl 3 rfl) ?_
    refine lv_aload_n hx hb d_P_sumOfSquares_7 rfl (lv_at hl 0 rfl) ?_
    refine va_get (D := D) (ci := 1) (v := .int (iI ((L : Int)))) (C := R_P) (T := F_P) (N := 4) hx hb hG in_P hown hK hP 0 rfl rfl 1 (by decide) (hG _ g_285) (fun _ h9 => h9) rfl d_P_sumOfSquares_8 ?_
    refine ri_icmp_gt (tgt := 77) hx hb d_P_sumOfSquares_11 (by decide) (by omega) (by omega) (fun c11 => ?_) (fun c11 => ?_)
    · exact absurd c11 (by omega)
    · refine lv_iload_n hx hb d_P_sumOfSquares_14 rfl (lv_at hl 1 rfl) ?_
      refine ri_if_eq (tgt := 41) hx hb d_P_sumOfSquares_15 (by decide) (by omega) (fun c15 => ?_) (fun c15 => ?_)
      · refine lv_aload_n hx hb d_P_sumOfSquares_41 rfl (lv_at hl 0 rfl) ?_
        refine va_get (D := D) (ci := 1) (v := .ref ar) (C := R_P) (T := F_P) (N := 4) hx hb hG in_P hown hK hP 0 rfl rfl 0 (by decide) (hG _ g_283) (fun _ h9 => h9) rfl d_P_sumOfSquares_42 ?_
        refine lv_iload hx hb d_P_sumOfSquares_45 (lv_at hl 3 rfl) ?_
        refine ri_iconst hx hb d_P_sumOfSquares_47 ?_
        refine ri_isub hx hb d_P_sumOfSquares_48 ?_
        refine tp_i (congrArg iI (show (1 + (ν : Int)) - 1 = (ν : Int) from by omega)) ?_
        refine ra_iald hx hb hK hP 1 rfl (by omega) (by omega) d_P_sumOfSquares_49 ?_
        refine lv_aload_n hx hb d_P_sumOfSquares_50 rfl (lv_at hl 0 rfl) ?_
        refine va_get (D := D) (ci := 1) (v := .ref ar) (C := R_P) (T := F_P) (N := 4) hx hb hG in_P hown hK hP 0 rfl rfl 0 (by decide) (hG _ g_283) (fun _ h9 => h9) rfl d_P_sumOfSquares_51 ?_
        refine lv_iload hx hb d_P_sumOfSquares_54 (lv_at hl 3 rfl) ?_
        refine ra_iald hx hb hK hP 1 rfl (by omega) (by omega) d_P_sumOfSquares_56 ?_
        refine rd_call (ex_runS (As := [.int (iI (r ((ν : Int)))), .int (iI (r (1 + (ν : Int))))]) (rest := []) ⟨hx, hb, hml, hown, hG⟩ (c_J_min l (r ν) (r (1 + ν)) (by omega) (by omega)) (cb_code (n := 2) hG g_251 g_9 g_451 rfl rfl (by decide +kernel) ⟨Nat.le_of_ble_eq_true rfl, Nat.le_of_ble_eq_true rfl⟩) (hG _ g_250) ⟨fun _ _ _ _ q => q, fun _ _ _ => rfl⟩ rfl rfl hl.1 rfl (lv_room (Nat.le_of_ble_eq_true rfl)) d_P_sumOfSquares_57 ⟨Nat.le_of_ble_eq_true rfl, Nat.le_of_ble_eq_true rfl⟩) (fun v9 h9 => ?_)
        obtain rfl := h9
        show W _ _ _ _ _ _ _ _ _ _ _ _ _ _ _ (F0 m9 60 ls [.int (iI (min (r ν) (r (1 + ν))))])
        refine ri_i2l hx hb d_P_sumOfSquares_60 (by omega) ?_
        refine lv_lstore (lv' := [(5, .long (jJ (min (r ν) (r (1 + ν))))), (0, .ref ap), (1, .int (iI (up))), (2, .long (jJ (itF (fun a b => a + b) (sqF r up) 0 1 ν))), (4, .int (iI (1 + (ν : Int))))]) hx hb d_P_sumOfSquares_61 hl (by decide) rfl (fun ls hl => ?_)
        refine lv_lload_n hx hb d_P_sumOfSquares_63 rfl (lv_at hl 3 rfl) ?_
        refine lv_lload hx hb d_P_sumOfSquares_64 (lv_at hl 0 rfl) ?_
        refine lv_lload hx hb d_P_sumOfSquares_66 (lv_at hl 0 rfl) ?_
        refine ri_lmul hx hb d_P_sumOfSquares_68 ?_
        refine ri_ladd hx hb d_P_sumOfSquares_69 ?_
        refine tp_l (congrArg jJ (show (itF (fun a b => a + b) (sqF r up) 0 1 ν) + ((min (r ν) (r (1 + ν))) * (min (r ν) (r (1 + ν)))) = itF (fun a b => a + b) (sqF r up) 0 1 (ν + 1) from by rw [itF_s, sqF, if_pos c15, show (1 : Int) + ν - 1 = ν by omega])) ?_
        refine lv_lstore_n (lv' := [(2, .long (jJ (itF (fun a b => a + b) (sqF r up) 0 1 (ν + 1)))), (5, .long (jJ (min (r ν) (r (1 + ν))))), (0, .ref ap), (1, .int (iI (up))), (4, .int (iI (1 + (ν : Int))))]) hx hb d_P_sumOfSquares_70 rfl hl (by decide) rfl (fun ls hl => ?_)
        refine lv_iinc (v := iI (1 + ((ν + 1 : Nat) : Int))) (lv' := [(4, .int (iI (1 + ((ν + 1 : Nat) : Int)))), (2, .long (jJ (itF (fun a b => a + b) (sqF r up) 0 1 (ν + 1)))), (5, .long (jJ (min (r ν) (r (1 + ν))))), (0, .ref ap), (1, .int (iI (up)))]) hx hb d_P_sumOfSquares_71 hl (k := 4) rfl ((ii_add _ _).trans (congrArg iI (by omega))) (by decide) rfl (fun ls hl => ?_)
        refine lv_goto (tgt := 5) hx hb d_P_sumOfSquares_74 (by decide) ?_
        exact ih ls (ν + 1) (by omega) (lv_sub hl [3, 4, 1, 0] rfl)
      · refine lv_aload_n hx hb d_P_sumOfSquares_18 rfl (lv_at hl 0 rfl) ?_
        refine va_get (D := D) (ci := 1) (v := .ref ar) (C := R_P) (T := F_P) (N := 4) hx hb hG in_P hown hK hP 0 rfl rfl 0 (by decide) (hG _ g_283) (fun _ h9 => h9) rfl d_P_sumOfSquares_19 ?_
        refine lv_iload hx hb d_P_sumOfSquares_22 (lv_at hl 3 rfl) ?_
        refine ri_iconst hx hb d_P_sumOfSquares_24 ?_
        refine ri_isub hx hb d_P_sumOfSquares_25 ?_
        refine tp_i (congrArg iI (show (1 + (ν : Int)) - 1 = (ν : Int) from by omega)) ?_
        refine ra_iald hx hb hK hP 1 rfl (by omega) (by omega) d_P_sumOfSquares_26 ?_
        refine lv_aload_n hx hb d_P_sumOfSquares_27 rfl (lv_at hl 0 rfl) ?_
        refine va_get (D := D) (ci := 1) (v := .ref ar) (C := R_P) (T := F_P) (N := 4) hx hb hG in_P hown hK hP 0 rfl rfl 0 (by decide) (hG _ g_283) (fun _ h9 => h9) rfl d_P_sumOfSquares_28 ?_
        refine lv_iload hx hb d_P_sumOfSquares_31 (lv_at hl 3 rfl) ?_
        refine ra_iald hx hb hK hP 1 rfl (by omega) (by omega) d_P_sumOfSquares_33 ?_
        refine rd_call (ex_runS (As := [.int (iI (r ((ν : Int)))), .int (iI (r (1 + (ν : Int))))]) (rest := []) ⟨hx, hb, hml, hown, hG⟩ (c_J_max l (r ν) (r (1 + ν)) (by omega) (by omega)) (cb_code (n := 2) hG g_254 g_9 g_282 rfl rfl (by decide +kernel) ⟨Nat.le_of_ble_eq_true rfl, Nat.le_of_ble_eq_true rfl⟩) (hG _ g_253) ⟨fun _ _ _ _ q => q, fun _ _ _ => rfl⟩ rfl rfl hl.1 rfl (lv_room (Nat.le_of_ble_eq_true rfl)) d_P_sumOfSquares_34 ⟨Nat.le_of_ble_eq_true rfl, Nat.le_of_ble_eq_true rfl⟩) (fun v9 h9 => ?_)
        obtain rfl := h9
        show W _ _ _ _ _ _ _ _ _ _ _ _ _ _ _ (F0 m9 37 ls [.int (iI (max (r ν) (r (1 + ν))))])
        refine ri_i2l hx hb d_P_sumOfSquares_37 (by omega) ?_
        refine lv_goto (tgt := 61) hx hb d_P_sumOfSquares_38 (by decide) ?_
        refine lv_lstore (lv' := [(5, .long (jJ (max (r ν) (r (1 + ν))))), (0, .ref ap), (1, .int (iI (up))), (2, .long (jJ (itF (fun a b => a + b) (sqF r up) 0 1 ν))), (4, .int (iI (1 + (ν : Int))))]) hx hb d_P_sumOfSquares_61 hl (by decide) rfl (fun ls hl => ?_)
        refine lv_lload_n hx hb d_P_sumOfSquares_63 rfl (lv_at hl 3 rfl) ?_
        refine lv_lload hx hb d_P_sumOfSquares_64 (lv_at hl 0 rfl) ?_
        refine lv_lload hx hb d_P_sumOfSquares_66 (lv_at hl 0 rfl) ?_
        refine ri_lmul hx hb d_P_sumOfSquares_68 ?_
        refine ri_ladd hx hb d_P_sumOfSquares_69 ?_
        refine tp_l (congrArg jJ (show (itF (fun a b => a + b) (sqF r up) 0 1 ν) + ((max (r ν) (r (1 + ν))) * (max (r ν) (r (1 + ν)))) = itF (fun a b => a + b) (sqF r up) 0 1 (ν + 1) from by rw [itF_s, sqF, if_neg c15, show (1 : Int) + ν - 1 = ν by omega])) ?_
        refine lv_lstore_n (lv' := [(2, .long (jJ (itF (fun a b => a + b) (sqF r up) 0 1 (ν + 1)))), (5, .long (jJ (max (r ν) (r (1 + ν))))), (0, .ref ap), (1, .int (iI (up))), (4, .int (iI (1 + (ν : Int))))]) hx hb d_P_sumOfSquares_70 rfl hl (by decide) rfl (fun ls hl => ?_)
        refine lv_iinc (v := iI (1 + ((ν + 1 : Nat) : Int))) (lv' := [(4, .int (iI (1 + ((ν + 1 : Nat) : Int)))), (2, .long (jJ (itF (fun a b => a + b) (sqF r up) 0 1 (ν + 1)))), (5, .long (jJ (max (r ν) (r (1 + ν))))), (0, .ref ap), (1, .int (iI (up)))]) hx hb d_P_sumOfSquares_71 hl (k := 4) rfl ((ii_add _ _).trans (congrArg iI (by omega))) (by decide) rfl (fun ls hl => ?_)
        refine lv_goto (tgt := 5) hx hb d_P_sumOfSquares_74 (by decide) ?_
        exact ih ls (ν + 1) (by omega) (lv_sub hl [3, 4, 1, 0] rfl)

set_option maxHeartbeats 4000000 in
set_option maxRecDepth 100000 in
theorem c_P_greatestDifference {l : Launch} {s0 : State} {D : va_G} {k : Nat → ClassId} (hC : Cx l s0 D k) (ap ar L : Nat) (r : Int → Int) (bl wy : Int) (hL : L ≤ 64) (hrr : ∀ j : Int, 0 ≤ j → j ≤ L → 0 ≤ r j ∧ r j ≤ 500) (ap2 ar2 L2 : Nat) (r2 : Int → Int) (bl2 wy2 : Int) (hL2 : L2 ≤ 64) (hrr2 : ∀ j : Int, 0 ≤ j → j ≤ L2 → 0 ≤ r2 j ∧ r2 j ≤ 500) : RdM l s0 y_P_greatestDifference { frames := 1, cells := 0, slots := 0, locals := 21 } [.ref ap, .ref ap2] (fun H => va_P D classes ([(ap, .inr (1, [.ref ar, .int (iI ((L : Int))), .int (iI (bl)), .int (iI (wy))])), (ar, .inl (k 0, ai (L + 1) r)), (ap2, .inr (1, [.ref ar2, .int (iI ((L2 : Int))), .int (iI (bl2)), .int (iI (wy2))])), (ar2, .inl (k 0, ai (L2 + 1) r2))]) H) (fun v => v = some (.int (iI (itF max (fun j => ((r j - r2 j).natAbs : Int)) 0 0 (min L L2 + 1))))) := by
  refine ex_ofW (cc := b_P_greatestDifference) (maxL := 4) (ret := (some .int)) (hh := []) (by decide +kernel) (Or.inl ⟨g_488, rfl⟩) ?_
  intro p9 e9 s m9 args9 below9 meth9 c9 s9 B9 hml htab hv
  obtain ⟨rfl, h0, hP⟩ := hv
  have hx := B9.exec
  have hb := B9.bytes
  have hr := B9.returns
  have hG := atoms_spec (ws := GW) B9.pre
  have hown : s.vm.findClass "LathePieces$Piece" = some m9.cls := findClass_of_methodNamed B9.named
  have hlocks := B9.notSynchronized
  have hK := cx_K hC h0
  have hS : va_S (aL s0) s.heap s.heap [] := va_S.rf
  have hl := lv_entry ([.ref ap, .ref ap2]) (n := 4) (Nat.le_of_ble_eq_true rfl)
  rw [lg_entry_eq]
  generalize (lg_sl ([.ref ap, .ref ap2]) ++ List.replicate (4 - (lg_sl ([.ref ap, .ref ap2])).length) Slot.unset).toArray = ls at hl ⊢
  replace hl : lv_has ls 4 [(0, .ref ap), (1, .ref ap2)] := hl
  refine ri_iconst hx hb d_P_greatestDifference_0 ?_
  refine lv_istore_n (lv' := [(2, .int (iI (0))), (0, .ref ap), (1, .ref ap2)]) hx hb d_P_greatestDifference_1 rfl hl (by decide) rfl (fun ls hl => ?_)
  refine ri_iconst hx hb d_P_greatestDifference_2 ?_
  refine lv_istore_n (lv' := [(3, .int (iI (0))), (2, .int (iI (0))), (0, .ref ap), (1, .ref ap2)]) hx hb d_P_greatestDifference_3 rfl hl (by decide) rfl (fun ls hl => ?_)
  replace hl : lv_has ls 4 [(3, .int (iI (0 + ((0 : Nat) : Int)))), (2, .int (iI (itF max (fun j => ((r j - r2 j).natAbs : Int)) 0 0 0))), (0, .ref ap), (1, .ref ap2)] := hl
  obtain ⟨κ, ν, hinv, hl1⟩ : ∃ (κ : Nat) (ν : Nat), ((ν : Int) + κ = ((min L L2 : Nat) : Int) + 1) ∧ lv_has ls 4 [(0, .ref ap), (1, .ref ap2), (2, .int (iI (itF max (fun j => ((r j - r2 j).natAbs : Int)) 0 0 ν))), (3, .int (iI (0 + (ν : Int))))] := ⟨min L L2 + 1, 0, (by omega), lv_sub hl [2, 3, 1, 0] rfl⟩
  clear hl
  have hl := hl1
  clear hl1
  induction κ generalizing ν ls with
  | zero =>
    obtain h1 := hinv
    refine lv_iload_n hx hb d_P_greatestDifference_4 rfl (lv_at hl 3 rfl) ?_
    refine lv_aload_n hx hb d_P_greatestDifference_5 rfl (lv_at hl 0 rfl) ?_
    refine va_get (D := D) (ci := 1) (v := .int (iI ((L : Int)))) (C := R_P) (T := F_P) (N := 4) hx hb hG in_P hown hK hP 0 rfl rfl 1 (by decide) (hG _ g_285) (fun _ h9 => h9) rfl d_P_greatestDifference_6 ?_
    refine ri_icmp_gt (tgt := 47) hx hb d_P_greatestDifference_9 (by decide) (by omega) (by omega) (fun c9 => ?_) (fun c9 => ?_)
    · refine lv_iload_n hx hb d_P_greatestDifference_47 rfl (lv_at hl 2 rfl) ?_
      exact re_i hx hb hr hlocks (fun t ht hW => ⟨by rw [show min L L2 + 1 = ν by omega], ht⟩) (fun z hz => nomatch hz) (Nat.le_of_ble_eq_true rfl) (Nat.le_of_ble_eq_true rfl) d_P_greatestDifference_48
    · refine lv_iload_n hx hb d_P_greatestDifference_12 rfl (lv_at hl 3 rfl) ?_
      refine lv_aload_n hx hb d_P_greatestDifference_13 rfl (lv_at hl 1 rfl) ?_
      refine va_get (D := D) (ci := 1) (v := .int (iI ((L2 : Int)))) (C := R_P) (T := F_P) (N := 4) hx hb hG in_P hown hK hP 2 rfl rfl 1 (by decide) (hG _ g_285) (fun _ h9 => h9) rfl d_P_greatestDifference_14 ?_
      refine ri_icmp_gt (tgt := 47) hx hb d_P_greatestDifference_17 (by decide) (by omega) (by omega) (fun c17 => ?_) (fun c17 => ?_)
      · refine lv_iload_n hx hb d_P_greatestDifference_47 rfl (lv_at hl 2 rfl) ?_
        exact re_i hx hb hr hlocks (fun t ht hW => ⟨by rw [show min L L2 + 1 = ν by omega], ht⟩) (fun z hz => nomatch hz) (Nat.le_of_ble_eq_true rfl) (Nat.le_of_ble_eq_true rfl) d_P_greatestDifference_48
      · exact absurd c17 (by omega)
  | succ κ ih =>
    obtain h1 := hinv
    refine lv_iload_n hx hb d_P_greatestDifference_4 rfl (lv_at hl 3 rfl) ?_
    refine lv_aload_n hx hb d_P_greatestDifference_5 rfl (lv_at hl 0 rfl) ?_
    refine va_get (D := D) (ci := 1) (v := .int (iI ((L : Int)))) (C := R_P) (T := F_P) (N := 4) hx hb hG in_P hown hK hP 0 rfl rfl 1 (by decide) (hG _ g_285) (fun _ h9 => h9) rfl d_P_greatestDifference_6 ?_
    refine ri_icmp_gt (tgt := 47) hx hb d_P_greatestDifference_9 (by decide) (by omega) (by omega) (fun c9 => ?_) (fun c9 => ?_)
    · exact absurd c9 (by omega)
    · refine lv_iload_n hx hb d_P_greatestDifference_12 rfl (lv_at hl 3 rfl) ?_
      refine lv_aload_n hx hb d_P_greatestDifference_13 rfl (lv_at hl 1 rfl) ?_
      refine va_get (D := D) (ci := 1) (v := .int (iI ((L2 : Int)))) (C := R_P) (T := F_P) (N := 4) hx hb hG in_P hown hK hP 2 rfl rfl 1 (by decide) (hG _ g_285) (fun _ h9 => h9) rfl d_P_greatestDifference_14 ?_
      refine ri_icmp_gt (tgt := 47) hx hb d_P_greatestDifference_17 (by decide) (by omega) (by omega) (fun c17 => ?_) (fun c17 => ?_)
      · exact absurd c17 (by omega)
      · have q1 := hrr (0 + ν) (by omega) (by omega)
        have q2 := hrr2 (0 + ν) (by omega) (by omega)
        have q3 : 0 ≤ itF max (fun j => ((r j - r2 j).natAbs : Int)) 0 0 ν ∧ itF max (fun j => ((r j - r2 j).natAbs : Int)) 0 0 ν ≤ 500 := itF_max ν (by omega) (fun j g1 g2 => by have := hrr j (by omega) (by omega); have := hrr2 j (by omega) (by omega); omega)
        refine lv_iload_n hx hb d_P_greatestDifference_20 rfl (lv_at hl 2 rfl) ?_
        refine lv_aload_n hx hb d_P_greatestDifference_21 rfl (lv_at hl 0 rfl) ?_
        refine va_get (D := D) (ci := 1) (v := .ref ar) (C := R_P) (T := F_P) (N := 4) hx hb hG in_P hown hK hP 0 rfl rfl 0 (by decide) (hG _ g_283) (fun _ h9 => h9) rfl d_P_greatestDifference_22 ?_
        refine lv_iload_n hx hb d_P_greatestDifference_25 rfl (lv_at hl 3 rfl) ?_
        refine ra_iald hx hb hK hP 1 rfl (by omega) (by omega) d_P_greatestDifference_26 ?_
        refine lv_aload_n hx hb d_P_greatestDifference_27 rfl (lv_at hl 1 rfl) ?_
        refine va_get (D := D) (ci := 1) (v := .ref ar2) (C := R_P) (T := F_P) (N := 4) hx hb hG in_P hown hK hP 2 rfl rfl 0 (by decide) (hG _ g_283) (fun _ h9 => h9) rfl d_P_greatestDifference_28 ?_
        refine lv_iload_n hx hb d_P_greatestDifference_31 rfl (lv_at hl 3 rfl) ?_
        refine ra_iald hx hb hK hP 3 rfl (by omega) (by omega) d_P_greatestDifference_32 ?_
        refine ri_isub hx hb d_P_greatestDifference_33 ?_
        refine rd_call (ex_runS (As := [.int (iI ((r (0 + (ν : Int))) - (r2 (0 + (ν : Int)))))]) (rest := [.int (iI (itF max (fun j => ((r j - r2 j).natAbs : Int)) 0 0 ν))]) ⟨hx, hb, hml, hown, hG⟩ (c_J_abs l (r (0 + ν) - r2 (0 + ν)) (by omega)) (cb_code (n := 1) hG g_388 g_9 g_489 rfl rfl (by decide +kernel) ⟨Nat.le_of_ble_eq_true rfl, Nat.le_of_ble_eq_true rfl⟩) (hG _ g_387) ⟨fun _ _ _ _ q => q, fun _ _ _ => rfl⟩ rfl rfl hl.1 rfl (lv_room (Nat.le_of_ble_eq_true rfl)) d_P_greatestDifference_34 ⟨Nat.le_of_ble_eq_true rfl, Nat.le_of_ble_eq_true rfl⟩) (fun v9 h9 => ?_)
        obtain rfl := h9
        show W _ _ _ _ _ _ _ _ _ _ _ _ _ _ _ (F0 m9 37 ls [.int (iI (((r (0 + ν) - r2 (0 + ν)).natAbs : Int))), .int (iI (itF max (fun j => ((r j - r2 j).natAbs : Int)) 0 0 ν))])
        refine rd_call (ex_runS (As := [.int (iI (itF max (fun j => ((r j - r2 j).natAbs : Int)) 0 0 ν)), .int (iI (((r (0 + ν) - r2 (0 + ν)).natAbs : Int)))]) (rest := []) ⟨hx, hb, hml, hown, hG⟩ (c_J_max l (itF max (fun j => ((r j - r2 j).natAbs : Int)) 0 0 ν) ((r (0 + ν) - r2 (0 + ν)).natAbs : Int) (by omega) (by omega)) (cb_code (n := 2) hG g_254 g_9 g_282 rfl rfl (by decide +kernel) ⟨Nat.le_of_ble_eq_true rfl, Nat.le_of_ble_eq_true rfl⟩) (hG _ g_253) ⟨fun _ _ _ _ q => q, fun _ _ _ => rfl⟩ rfl rfl hl.1 rfl (lv_room (Nat.le_of_ble_eq_true rfl)) d_P_greatestDifference_37 ⟨Nat.le_of_ble_eq_true rfl, Nat.le_of_ble_eq_true rfl⟩) (fun v9 h9 => ?_)
        obtain rfl := h9
        show W _ _ _ _ _ _ _ _ _ _ _ _ _ _ _ (F0 m9 40 ls [.int (iI (itF max (fun j => ((r j - r2 j).natAbs : Int)) 0 0 (ν + 1)))])
        refine lv_istore_n (lv' := [(2, .int (iI (itF max (fun j => ((r j - r2 j).natAbs : Int)) 0 0 (ν + 1)))), (0, .ref ap), (1, .ref ap2), (3, .int (iI (0 + (ν : Int))))]) hx hb d_P_greatestDifference_40 rfl hl (by decide) rfl (fun ls hl => ?_)
        refine lv_iinc (v := iI (0 + ((ν + 1 : Nat) : Int))) (lv' := [(3, .int (iI (0 + ((ν + 1 : Nat) : Int)))), (2, .int (iI (itF max (fun j => ((r j - r2 j).natAbs : Int)) 0 0 (ν + 1)))), (0, .ref ap), (1, .ref ap2)]) hx hb d_P_greatestDifference_41 hl (k := 3) rfl ((ii_add _ _).trans (congrArg iI (by omega))) (by decide) rfl (fun ls hl => ?_)
        refine lv_goto (tgt := 4) hx hb d_P_greatestDifference_44 (by decide) ?_
        exact ih ls (ν + 1) (by omega) (lv_sub hl [2, 3, 1, 0] rfl)

set_option maxHeartbeats 4000000 in
set_option maxRecDepth 100000 in
theorem c_G_gapParts {l : Launch} {s0 : State} {D : va_G} {k : Nat → ClassId} (hC : Cx l s0 D k) (ag ga gb : Nat) (cn sm : Int) : RdM l s0 y_G_gapParts { frames := 0, cells := 0, slots := 0, locals := 0 } [.ref ag] (fun H => va_P D classes ([(ag, .inr (4, [.ref ga, .ref gb, .int (iI (cn)), .long (jJ (sm))]))]) H) (fun v => v = some (.long (jJ (9979200 - sm)))) := by
  refine ex_ofW (cc := b_G_gapParts) (maxL := 1) (ret := (some .long)) (hh := []) (by decide +kernel) (Or.inl ⟨g_568, rfl⟩) ?_
  intro p9 e9 s m9 args9 below9 meth9 c9 s9 B9 hml htab hv
  obtain ⟨rfl, h0, hP⟩ := hv
  have hx := B9.exec
  have hb := B9.bytes
  have hr := B9.returns
  have hG := atoms_spec (ws := GW) B9.pre
  have hown : s.vm.findClass "LathePieces$Ring" = some m9.cls := findClass_of_methodNamed B9.named
  have hlocks := B9.notSynchronized
  have hK := cx_K hC h0
  have hS : va_S (aL s0) s.heap s.heap [] := va_S.rf
  have hl := lv_entry ([.ref ag]) (n := 1) (Nat.le_of_ble_eq_true rfl)
  rw [lg_entry_eq]
  generalize (lg_sl ([.ref ag]) ++ List.replicate (1 - (lg_sl ([.ref ag])).length) Slot.unset).toArray = ls at hl ⊢
  replace hl : lv_has ls 1 [(0, .ref ag)] := hl
  refine lv_ldc2 (v := jJ 9979200) hx hb hown (hG _ g_569) d_G_gapParts_0 ?_
  refine lv_aload_n hx hb d_G_gapParts_3 rfl (lv_at hl 0 rfl) ?_
  refine va_get (D := D) (ci := 4) (v := .long (jJ (sm))) (C := R_G) (T := F_G) (N := 4) hx hb hG in_G hown hK hP 0 rfl rfl 3 (by decide) (hG _ g_509) (fun _ h9 => h9) rfl d_G_gapParts_4 ?_
  refine ri_lsub hx hb d_G_gapParts_7 ?_
  exact re_l hx hb hr hlocks (fun t ht hW => ⟨rfl, ht⟩) (fun z hz => nomatch hz) (Nat.le_of_ble_eq_true rfl) (Nat.le_of_ble_eq_true rfl) d_G_gapParts_8
end
section
set_option maxHeartbeats 4000000 in
set_option maxRecDepth 100000 in
theorem c_R_wantedAt {l : Launch} {s0 : State} {D : va_G} {k : Nat → ClassId} (hC : Cx l s0 D k) (ax aw L : Nat) (lw : Int → Int) (hL : L ≤ 64) (hlw : ∀ j : Int, 0 ≤ j → j ≤ L → -12 ≤ lw j ∧ lw j ≤ 512) (x bl sk : Int) (hx9 : 0 ≤ x ∧ x ≤ L) (hbl : 0 ≤ bl ∧ bl ≤ 503) (hsk : 0 ≤ sk ∧ sk ≤ 50) : RdM l s0 y_R_wantedAt { frames := 1, cells := 0, slots := 0, locals := 21 } [.ref ax, .int (iI (x)), .int (iI (bl)), .int (iI (sk))] (fun H => va_P D classes ([(ax, .inr (3, [.ref aw])), (aw, .inl (k 0, ai (L + 1) lw))]) H) (fun v => v = some (.int (iI (min (lw x + sk) bl)))) := by
  refine ex_ofW (cc := b_R_wantedAt) (maxL := 4) (ret := (some .int)) (hh := []) (by decide +kernel) (Or.inl ⟨g_426, rfl⟩) ?_
  intro p9 e9 s m9 args9 below9 meth9 c9 s9 B9 hml htab hv
  obtain ⟨rfl, h0, hP⟩ := hv
  have hx := B9.exec
  have hb := B9.bytes
  have hr := B9.returns
  have hG := atoms_spec (ws := GW) B9.pre
  have hown : s.vm.findClass "LathePieces$Reach" = some m9.cls := findClass_of_methodNamed B9.named
  have hlocks := B9.notSynchronized
  have hK := cx_K hC h0
  have hS : va_S (aL s0) s.heap s.heap [] := va_S.rf
  have hl := lv_entry ([.ref ax, .int (iI (x)), .int (iI (bl)), .int (iI (sk))]) (n := 4) (Nat.le_of_ble_eq_true rfl)
  rw [lg_entry_eq]
  generalize (lg_sl ([.ref ax, .int (iI (x)), .int (iI (bl)), .int (iI (sk))]) ++ List.replicate (4 - (lg_sl ([.ref ax, .int (iI (x)), .int (iI (bl)), .int (iI (sk))])).length) Slot.unset).toArray = ls at hl ⊢
  replace hl : lv_has ls 4 [(0, .ref ax), (1, .int (iI (x))), (2, .int (iI (bl))), (3, .int (iI (sk)))] := hl
  have q1 := hlw x hx9.1 hx9.2
  refine lv_aload_n hx hb d_R_wantedAt_0 rfl (lv_at hl 0 rfl) ?_
  refine va_get (D := D) (ci := 3) (v := .ref aw) (C := R_R) (T := F_R) (N := 1) hx hb hG in_R hown hK hP 0 rfl rfl 0 (by decide) (hG _ g_393) (fun _ h9 => h9) rfl d_R_wantedAt_1 ?_
  refine lv_iload_n hx hb d_R_wantedAt_4 rfl (lv_at hl 1 rfl) ?_
  refine ra_iald hx hb hK hP 1 rfl (by omega) (by omega) d_R_wantedAt_5 ?_
  refine lv_iload_n hx hb d_R_wantedAt_6 rfl (lv_at hl 3 rfl) ?_
  refine ri_iadd hx hb d_R_wantedAt_7 ?_
  refine lv_iload_n hx hb d_R_wantedAt_8 rfl (lv_at hl 2 rfl) ?_
  refine rd_call (ex_runS (As := [.int (iI ((lw (x)) + (sk))), .int (iI (bl))]) (rest := []) ⟨hx, hb, hml, hown, hG⟩ (c_J_min l (lw x + sk) bl (by omega) (by omega)) (cb_code (n := 2) hG g_251 g_9 g_384 rfl rfl (by decide +kernel) ⟨Nat.le_of_ble_eq_true rfl, Nat.le_of_ble_eq_true rfl⟩) (hG _ g_250) ⟨fun _ _ _ _ q => q, fun _ _ _ => rfl⟩ rfl rfl hl.1 rfl (lv_room (Nat.le_of_ble_eq_true rfl)) d_R_wantedAt_9 ⟨Nat.le_of_ble_eq_true rfl, Nat.le_of_ble_eq_true rfl⟩) (fun v9 h9 => ?_)
  obtain rfl := h9
  show W _ _ _ _ _ _ _ _ _ _ _ _ _ _ _ (F0 m9 12 ls [.int (iI (min (lw x + sk) bl))])
  exact re_i hx hb hr hlocks (fun t ht hW => ⟨rfl, ht⟩) (fun z hz => nomatch hz) (Nat.le_of_ble_eq_true rfl) (Nat.le_of_ble_eq_true rfl) d_R_wantedAt_12

set_option maxHeartbeats 4000000 in
set_option maxRecDepth 100000 in
theorem c_R_placesAbove {l : Launch} {s0 : State} {D : va_G} {k : Nat → ClassId} (hC : Cx l s0 D k) (ax aw L : Nat) (lw : Int → Int) (hL : L ≤ 64) (hlw : ∀ j : Int, 0 ≤ j → j ≤ L → -12 ≤ lw j ∧ lw j ≤ 512) (ar : Nat) (r : Int → Int) (hrr : ∀ j : Int, 0 ≤ j → j ≤ L → 0 ≤ r j ∧ r j ≤ 500) : RdM l s0 y_R_placesAbove { frames := 0, cells := 0, slots := 0, locals := 0 } [.ref ax, .ref ar] (fun H => va_P D classes ([(ax, .inr (3, [.ref aw])), (aw, .inl (k 0, ai (L + 1) lw)), (ar, .inl (k 0, ai (L + 1) r))]) H) (fun v => v = some (.int (iI (cnF (fun j => decide (r j < lw j)) 0 (L + 1))))) := by
  refine ex_ofW (cc := b_R_placesAbove) (maxL := 4) (ret := (some .int)) (hh := []) (by decide +kernel) (Or.inl ⟨g_408, rfl⟩) ?_
  intro p9 e9 s m9 args9 below9 meth9 c9 s9 B9 hml htab hv
  obtain ⟨rfl, h0, hP⟩ := hv
  have hx := B9.exec
  have hb := B9.bytes
  have hr := B9.returns
  have hG := atoms_spec (ws := GW) B9.pre
  have hown : s.vm.findClass "LathePieces$Reach" = some m9.cls := findClass_of_methodNamed B9.named
  have hlocks := B9.notSynchronized
  have hK := cx_K hC h0
  have hS : va_S (aL s0) s.heap s.heap [] := va_S.rf
  have hl := lv_entry ([.ref ax, .ref ar]) (n := 4) (Nat.le_of_ble_eq_true rfl)
  rw [lg_entry_eq]
  generalize (lg_sl ([.ref ax, .ref ar]) ++ List.replicate (4 - (lg_sl ([.ref ax, .ref ar])).length) Slot.unset).toArray = ls at hl ⊢
  replace hl : lv_has ls 4 [(0, .ref ax), (1, .ref ar)] := hl
  refine ri_iconst hx hb d_R_placesAbove_0 ?_
  refine lv_istore_n (lv' := [(2, .int (iI (0))), (0, .ref ax), (1, .ref ar)]) hx hb d_R_placesAbove_1 rfl hl (by decide) rfl (fun ls hl => ?_)
  refine ri_iconst hx hb d_R_placesAbove_2 ?_
  refine lv_istore_n (lv' := [(3, .int (iI (0))), (2, .int (iI (0))), (0, .ref ax), (1, .ref ar)]) hx hb d_R_placesAbove_3 rfl hl (by decide) rfl (fun ls hl => ?_)
  replace hl : lv_has ls 4 [(3, .int (iI (0 + ((0 : Nat) : Int)))), (2, .int (iI (cnF (fun j => decide (r j < lw j)) 0 0))), (0, .ref ax), (1, .ref ar)] := hl
  obtain ⟨κ, ν, hinv, hl1⟩ : ∃ (κ : Nat) (ν : Nat), (ν + κ = L + 1) ∧ lv_has ls 4 [(0, .ref ax), (1, .ref ar), (2, .int (iI (cnF (fun j => decide (r j < lw j)) 0 ν))), (3, .int (iI (0 + (ν : Int))))] := ⟨L + 1, 0, (by omega), lv_sub hl [2, 3, 1, 0] rfl⟩
  clear hl
  have hl := hl1
  clear hl1
  induction κ generalizing ν ls with
  | zero =>
    obtain h1 := hinv
    refine lv_iload_n hx hb d_R_placesAbove_4 rfl (lv_at hl 3 rfl) ?_
    refine lv_aload_n hx hb d_R_placesAbove_5 rfl (lv_at hl 0 rfl) ?_
    refine va_get (D := D) (ci := 3) (v := .ref aw) (C := R_R) (T := F_R) (N := 1) hx hb hG in_R hown hK hP 0 rfl rfl 0 (by decide) (hG _ g_393) (fun _ h9 => h9) rfl d_R_placesAbove_6 ?_
    refine ra_alen (z := (L + 1)) hx hb hK hP 1 0 rfl rfl rfl d_R_placesAbove_9 ?_
    refine ri_icmp_ge (tgt := 40) hx hb d_R_placesAbove_10 (by decide) (by omega) (by omega) (fun c10 => ?_) (fun c10 => ?_)
    · refine lv_iload_n hx hb d_R_placesAbove_40 rfl (lv_at hl 2 rfl) ?_
      exact re_i hx hb hr hlocks (fun t ht hW => ⟨by rw [show L + 1 = ν by omega], ht⟩) (fun z hz => nomatch hz) (Nat.le_of_ble_eq_true rfl) (Nat.le_of_ble_eq_true rfl) d_R_placesAbove_41
    · exact absurd c10 (by omega)
  | succ κ ih =>
    obtain h1 := hinv
    refine lv_iload_n hx hb d_R_placesAbove_4 rfl (lv_at hl 3 rfl) ?_
    refine lv_aload_n hx hb d_R_placesAbove_5 rfl (lv_at hl 0 rfl) ?_
    refine va_get (D := D) (ci := 3) (v := .ref aw) (C := R_R) (T := F_R) (N := 1) hx hb hG in_R hown hK hP 0 rfl rfl 0 (by decide) (hG _ g_393) (fun _ h9 => h9) rfl d_R_placesAbove_6 ?_
    refine ra_alen (z := (L + 1)) hx hb hK hP 1 0 rfl rfl rfl d_R_placesAbove_9 ?_
    refine ri_icmp_ge (tgt := 40) hx hb d_R_placesAbove_10 (by decide) (by omega) (by omega) (fun c10 => ?_) (fun c10 => ?_)
    · exact absurd c10 (by omega)
    · refine lv_iload_n hx hb d_R_placesAbove_13 rfl (lv_at hl 3 rfl) ?_
      refine lv_aload_n hx hb d_R_placesAbove_14 rfl (lv_at hl 1 rfl) ?_
      refine ra_alen (z := (L + 1)) hx hb hK hP 2 0 rfl rfl rfl d_R_placesAbove_15 ?_
      refine ri_icmp_ge (tgt := 40) hx hb d_R_placesAbove_16 (by decide) (by omega) (by omega) (fun c16 => ?_) (fun c16 => ?_)
      · exact absurd c16 (by omega)
      · have q1 := hlw (0 + ν) (by omega) (by omega)
        have q2 := hrr (0 + ν) (by omega) (by omega)
        have q3 := cnF_s (fun j => decide (r j < lw j)) 0 ν
        refine lv_aload_n hx hb d_R_placesAbove_19 rfl (lv_at hl 0 rfl) ?_
        refine va_get (D := D) (ci := 3) (v := .ref aw) (C := R_R) (T := F_R) (N := 1) hx hb hG in_R hown hK hP 0 rfl rfl 0 (by decide) (hG _ g_393) (fun _ h9 => h9) rfl d_R_placesAbove_20 ?_
        refine lv_iload_n hx hb d_R_placesAbove_23 rfl (lv_at hl 3 rfl) ?_
        refine ra_iald hx hb hK hP 1 rfl (by omega) (by omega) d_R_placesAbove_24 ?_
        refine lv_aload_n hx hb d_R_placesAbove_25 rfl (lv_at hl 1 rfl) ?_
        refine lv_iload_n hx hb d_R_placesAbove_26 rfl (lv_at hl 3 rfl) ?_
        refine ra_iald hx hb hK hP 2 rfl (by omega) (by omega) d_R_placesAbove_27 ?_
        refine ri_icmp_le (tgt := 34) hx hb d_R_placesAbove_28 (by decide) (by omega) (by omega) (fun c28 => ?_) (fun c28 => ?_)
        · rw [if_neg (by rw [decide_eq_true_eq]; omega), Int.add_zero] at q3
          rw [← q3] at hl
          refine lv_iinc (v := iI (0 + ((ν + 1 : Nat) : Int))) (lv' := [(3, .int (iI (0 + ((ν + 1 : Nat) : Int)))), (0, .ref ax), (1, .ref ar), (2, .int (iI (cnF (fun j => decide (r j < lw j)) 0 (ν + 1))))]) hx hb d_R_placesAbove_34 hl (k := 3) rfl ((ii_add _ _).trans (congrArg iI (by omega))) (by decide) rfl (fun ls hl => ?_)
          refine lv_goto (tgt := 4) hx hb d_R_placesAbove_37 (by decide) ?_
          exact ih ls (ν + 1) (by omega) (lv_sub hl [1, 2, 3, 0] rfl)
        · rw [if_pos (by rw [decide_eq_true_eq]; omega)] at q3
          refine lv_iinc (v := iI (cnF (fun j => decide (r j < lw j)) 0 (ν + 1))) (lv' := [(2, .int (iI (cnF (fun j => decide (r j < lw j)) 0 (ν + 1)))), (0, .ref ax), (1, .ref ar), (3, .int (iI (0 + (ν : Int))))]) hx hb d_R_placesAbove_31 hl (k := 2) rfl ((ii_add _ _).trans (congrArg iI q3.symm)) (by decide) rfl (fun ls hl => ?_)
          refine lv_iinc (v := iI (0 + ((ν + 1 : Nat) : Int))) (lv' := [(3, .int (iI (0 + ((ν + 1 : Nat) : Int)))), (2, .int (iI (cnF (fun j => decide (r j < lw j)) 0 (ν + 1)))), (0, .ref ax), (1, .ref ar)]) hx hb d_R_placesAbove_34 hl (k := 3) rfl ((ii_add _ _).trans (congrArg iI (by omega))) (by decide) rfl (fun ls hl => ?_)
          refine lv_goto (tgt := 4) hx hb d_R_placesAbove_37 (by decide) ?_
          exact ih ls (ν + 1) (by omega) (lv_sub hl [2, 3, 1, 0] rfl)

set_option maxHeartbeats 4000000 in
set_option maxRecDepth 100000 in
theorem c_R_placesCut {l : Launch} {s0 : State} {D : va_G} {k : Nat → ClassId} (hC : Cx l s0 D k) (ax aw L : Nat) (lw : Int → Int) (hL : L ≤ 64) (hlw : ∀ j : Int, 0 ≤ j → j ≤ L → -12 ≤ lw j ∧ lw j ≤ 512) (bl sk sz : Int) (hbl : 0 ≤ bl ∧ bl ≤ 503) (hsk : 0 ≤ sk ∧ sk ≤ 50) (hsz : In64 sz) : RdM l s0 y_R_placesCut { frames := 2, cells := 0, slots := 0, locals := 44 } [.ref ax, .int (iI (bl)), .int (iI (sk)), .long (jJ (sz))] (fun H => va_P D classes ([(ax, .inr (3, [.ref aw])), (aw, .inl (k 0, ai (L + 1) lw))]) H) (fun v => v = some (.int (iI (cnF (fun j => decide (min (lw j + sk) bl < sz)) 0 (L + 1))))) := by
  refine ex_ofW (cc := b_R_placesCut) (maxL := 7) (ret := (some .int)) (hh := []) (by decide +kernel) (Or.inl ⟨g_438, rfl⟩) ?_
  intro p9 e9 s m9 args9 below9 meth9 c9 s9 B9 hml htab hv
  obtain ⟨rfl, h0, hP⟩ := hv
  have hx := B9.exec
  have hb := B9.bytes
  have hr := B9.returns
  have hG := atoms_spec (ws := GW) B9.pre
  have hown : s.vm.findClass "LathePieces$Reach" = some m9.cls := findClass_of_methodNamed B9.named
  have hlocks := B9.notSynchronized
  have hK := cx_K hC h0
  have hS : va_S (aL s0) s.heap s.heap [] := va_S.rf
  have hl := lv_entry ([.ref ax, .int (iI (bl)), .int (iI (sk)), .long (jJ (sz))]) (n := 7) (Nat.le_of_ble_eq_true rfl)
  rw [lg_entry_eq]
  generalize (lg_sl ([.ref ax, .int (iI (bl)), .int (iI (sk)), .long (jJ (sz))]) ++ List.replicate (7 - (lg_sl ([.ref ax, .int (iI (bl)), .int (iI (sk)), .long (jJ (sz))])).length) Slot.unset).toArray = ls at hl ⊢
  replace hl : lv_has ls 7 [(0, .ref ax), (1, .int (iI (bl))), (2, .int (iI (sk))), (3, .long (jJ (sz)))] := hl
  refine ri_iconst hx hb d_R_placesCut_0 ?_
  refine lv_istore (lv' := [(5, .int (iI (0))), (0, .ref ax), (1, .int (iI (bl))), (2, .int (iI (sk))), (3, .long (jJ (sz)))]) hx hb d_R_placesCut_1 hl (by decide) rfl (fun ls hl => ?_)
  refine ri_iconst hx hb d_R_placesCut_3 ?_
  refine lv_istore (lv' := [(6, .int (iI (0))), (5, .int (iI (0))), (0, .ref ax), (1, .int (iI (bl))), (2, .int (iI (sk))), (3, .long (jJ (sz)))]) hx hb d_R_placesCut_4 hl (by decide) rfl (fun ls hl => ?_)
  replace hl : lv_has ls 7 [(6, .int (iI (0 + ((0 : Nat) : Int)))), (5, .int (iI (cnF (fun j => decide (min (lw j + sk) bl < sz)) 0 0))), (0, .ref ax), (1, .int (iI (bl))), (2, .int (iI (sk))), (3, .long (jJ (sz)))] := hl
  obtain ⟨κ, ν, hinv, hl1⟩ : ∃ (κ : Nat) (ν : Nat), (ν + κ = L + 1) ∧ lv_has ls 7 [(0, .ref ax), (1, .int (iI (bl))), (2, .int (iI (sk))), (3, .long (jJ (sz))), (5, .int (iI (cnF (fun j => decide (min (lw j + sk) bl < sz)) 0 ν))), (6, .int (iI (0 + (ν : Int))))] := ⟨L + 1, 0, (by omega), lv_sub hl [2, 3, 4, 5, 1, 0] rfl⟩
  clear hl
  have hl := hl1
  clear hl1
  induction κ generalizing ν ls with
  | zero =>
    obtain h1 := hinv
    refine lv_iload hx hb d_R_placesCut_6 (lv_at hl 5 rfl) ?_
    refine lv_aload_n hx hb d_R_placesCut_8 rfl (lv_at hl 0 rfl) ?_
    refine va_get (D := D) (ci := 3) (v := .ref aw) (C := R_R) (T := F_R) (N := 1) hx hb hG in_R hown hK hP 0 rfl rfl 0 (by decide) (hG _ g_393) (fun _ h9 => h9) rfl d_R_placesCut_9 ?_
    refine ra_alen (z := (L + 1)) hx hb hK hP 1 0 rfl rfl rfl d_R_placesCut_12 ?_
    refine ri_icmp_ge (tgt := 39) hx hb d_R_placesCut_13 (by decide) (by omega) (by omega) (fun c13 => ?_) (fun c13 => ?_)
    · refine lv_iload hx hb d_R_placesCut_39 (lv_at hl 4 rfl) ?_
      exact re_i hx hb hr hlocks (fun t ht hW => ⟨by rw [show L + 1 = ν by omega], ht⟩) (fun z hz => nomatch hz) (Nat.le_of_ble_eq_true rfl) (Nat.le_of_ble_eq_true rfl) d_R_placesCut_41
    · exact absurd c13 (by omega)
  | succ κ ih =>
    obtain h1 := hinv
    refine lv_iload hx hb d_R_placesCut_6 (lv_at hl 5 rfl) ?_
    refine lv_aload_n hx hb d_R_placesCut_8 rfl (lv_at hl 0 rfl) ?_
    refine va_get (D := D) (ci := 3) (v := .ref aw) (C := R_R) (T := F_R) (N := 1) hx hb hG in_R hown hK hP 0 rfl rfl 0 (by decide) (hG _ g_393) (fun _ h9 => h9) rfl d_R_placesCut_9 ?_
    refine ra_alen (z := (L + 1)) hx hb hK hP 1 0 rfl rfl rfl d_R_placesCut_12 ?_
    refine ri_icmp_ge (tgt := 39) hx hb d_R_placesCut_13 (by decide) (by omega) (by omega) (fun c13 => ?_) (fun c13 => ?_)
    · exact absurd c13 (by omega)
    · have q1 := hlw (0 + ν) (by omega) (by omega)
      have q3 := cnF_s (fun j => decide (min (lw j + sk) bl < sz)) 0 ν
      refine lv_aload_n hx hb d_R_placesCut_16 rfl (lv_at hl 0 rfl) ?_
      refine lv_iload hx hb d_R_placesCut_17 (lv_at hl 5 rfl) ?_
      refine lv_iload_n hx hb d_R_placesCut_19 rfl (lv_at hl 1 rfl) ?_
      refine lv_iload_n hx hb d_R_placesCut_20 rfl (lv_at hl 2 rfl) ?_
      refine rd_call (ex_runV (C := "LathePieces$Reach") (As := [.int (iI (0 + (ν : Int))), .int (iI (bl)), .int (iI (sk))]) (rest := []) ⟨hx, hb, hml, hown, hG⟩ (c_R_wantedAt hC ax aw L lw hL hlw (0 + ν) bl sk (by omega) hbl hsk) (cb_code (n := 3) hG g_426 g_15 g_423 rfl rfl (by decide +kernel) ⟨Nat.le_of_ble_eq_true rfl, Nat.le_of_ble_eq_true rfl⟩) (hG _ g_424) (hG _ g_425) (kd_V ⟨fun _ _ _ _ q => q, fun U hU hW => ⟨rfl, la_next h0 (fun _ z => z) hS U hU hW, (by show va_P D classes _ U.heap; rw [hU]; exact hP)⟩⟩ (kd_recv hK hP (q0 := 0) (ci := 3) rfl rfl rfl)) rfl rfl hl.1 rfl (lv_room (Nat.le_of_ble_eq_true rfl)) d_R_placesCut_21 ⟨Nat.le_of_ble_eq_true rfl, Nat.le_of_ble_eq_true rfl⟩) (fun v9 h9 => ?_)
      obtain rfl := h9
      show W _ _ _ _ _ _ _ _ _ _ _ _ _ _ _ (F0 m9 24 ls [.int (iI (min (lw (0 + ν) + sk) bl))])
      refine ri_i2l hx hb d_R_placesCut_24 (by omega) ?_
      refine lv_lload_n hx hb d_R_placesCut_25 rfl (lv_at hl 3 rfl) ?_
      refine ri_lc_ge (tgt := 33) hx hb d_R_placesCut_26 d_R_placesCut_27 (by decide) (by omega) (by omega) (fun c26 => ?_) (fun c26 => ?_)
      · rw [if_neg (by rw [decide_eq_true_eq]; omega), Int.add_zero] at q3
        rw [← q3] at hl
        refine lv_iinc (v := iI (0 + ((ν + 1 : Nat) : Int))) (lv' := [(6, .int (iI (0 + ((ν + 1 : Nat) : Int)))), (0, .ref ax), (1, .int (iI (bl))), (2, .int (iI (sk))), (3, .long (jJ (sz))), (5, .int (iI (cnF (fun j => decide (min (lw j + sk) bl < sz)) 0 (ν + 1))))]) hx hb d_R_placesCut_33 hl (k := 5) rfl ((ii_add _ _).trans (congrArg iI (by omega))) (by decide) rfl (fun ls hl => ?_)
        refine lv_goto (tgt := 6) hx hb d_R_placesCut_36 (by decide) ?_
        exact ih ls (ν + 1) (by omega) (lv_sub hl [1, 2, 3, 4, 5, 0] rfl)
      · rw [if_pos (by rw [decide_eq_true_eq]; omega)] at q3
        refine lv_iinc (v := iI (cnF (fun j => decide (min (lw j + sk) bl < sz)) 0 (ν + 1))) (lv' := [(5, .int (iI (cnF (fun j => decide (min (lw j + sk) bl < sz)) 0 (ν + 1)))), (0, .ref ax), (1, .int (iI (bl))), (2, .int (iI (sk))), (3, .long (jJ (sz))), (6, .int (iI (0 + (ν : Int))))]) hx hb d_R_placesCut_30 hl (k := 4) rfl ((ii_add _ _).trans (congrArg iI q3.symm)) (by decide) rfl (fun ls hl => ?_)
        refine lv_iinc (v := iI (0 + ((ν + 1 : Nat) : Int))) (lv' := [(6, .int (iI (0 + ((ν + 1 : Nat) : Int)))), (5, .int (iI (cnF (fun j => decide (min (lw j + sk) bl < sz)) 0 (ν + 1)))), (0, .ref ax), (1, .int (iI (bl))), (2, .int (iI (sk))), (3, .long (jJ (sz)))]) hx hb d_R_placesCut_33 hl (k := 5) rfl ((ii_add _ _).trans (congrArg iI (by omega))) (by decide) rfl (fun ls hl => ?_)
        refine lv_goto (tgt := 6) hx hb d_R_placesCut_36 (by decide) ?_
        exact ih ls (ν + 1) (by omega) (lv_sub hl [2, 3, 4, 5, 1, 0] rfl)

set_option maxHeartbeats 4000000 in
set_option maxRecDepth 100000 in
theorem c_R_passCount {l : Launch} {s0 : State} {D : va_G} {k : Nat → ClassId} (hC : Cx l s0 D k) (ax aw L : Nat) (lw : Int → Int) (hL : L ≤ 64) (hlw : ∀ j : Int, 0 ≤ j → j ≤ L → -12 ≤ lw j ∧ lw j ≤ 512) (bl dp sk : Int) (hbl : 0 ≤ bl ∧ bl ≤ 503) (hdp : 1 ≤ dp ∧ dp ≤ 100) (hsk : 0 ≤ sk ∧ sk ≤ 50) : RdM l s0 y_R_passCount { frames := 2, cells := 0, slots := 0, locals := 44 } [.ref ax, .int (iI (bl)), .int (iI (dp)), .int (iI (sk))] (fun H => va_P D classes ([(ax, .inr (3, [.ref aw])), (aw, .inl (k 0, ai (L + 1) lw))]) H) (fun v => v = some (.int (iI ((bl - itF min (fun j => min (lw j + sk) bl) bl 0 (L + 1) + dp - 1).tdiv dp)))) := by
  refine ex_ofW (cc := b_R_passCount) (maxL := 6) (ret := (some .int)) (hh := []) (by decide +kernel) (Or.inl ⟨g_422, rfl⟩) ?_
  intro p9 e9 s m9 args9 below9 meth9 c9 s9 B9 hml htab hv
  obtain ⟨rfl, h0, hP⟩ := hv
  have hx := B9.exec
  have hb := B9.bytes
  have hr := B9.returns
  have hG := atoms_spec (ws := GW) B9.pre
  have hown : s.vm.findClass "LathePieces$Reach" = some m9.cls := findClass_of_methodNamed B9.named
  have hlocks := B9.notSynchronized
  have hK := cx_K hC h0
  have hS : va_S (aL s0) s.heap s.heap [] := va_S.rf
  have hl := lv_entry ([.ref ax, .int (iI (bl)), .int (iI (dp)), .int (iI (sk))]) (n := 6) (Nat.le_of_ble_eq_true rfl)
  rw [lg_entry_eq]
  generalize (lg_sl ([.ref ax, .int (iI (bl)), .int (iI (dp)), .int (iI (sk))]) ++ List.replicate (6 - (lg_sl ([.ref ax, .int (iI (bl)), .int (iI (dp)), .int (iI (sk))])).length) Slot.unset).toArray = ls at hl ⊢
  replace hl : lv_has ls 6 [(0, .ref ax), (1, .int (iI (bl))), (2, .int (iI (dp))), (3, .int (iI (sk)))] := hl
  refine lv_iload_n hx hb d_R_passCount_0 rfl (lv_at hl 1 rfl) ?_
  refine lv_istore (lv' := [(4, .int (iI (bl))), (0, .ref ax), (1, .int (iI (bl))), (2, .int (iI (dp))), (3, .int (iI (sk)))]) hx hb d_R_passCount_1 hl (by decide) rfl (fun ls hl => ?_)
  refine ri_iconst hx hb d_R_passCount_3 ?_
  refine lv_istore (lv' := [(5, .int (iI (0))), (4, .int (iI (bl))), (0, .ref ax), (1, .int (iI (bl))), (2, .int (iI (dp))), (3, .int (iI (sk)))]) hx hb d_R_passCount_4 hl (by decide) rfl (fun ls hl => ?_)
  replace hl : lv_has ls 6 [(5, .int (iI (0 + ((0 : Nat) : Int)))), (4, .int (iI (itF min (fun j => min (lw j + sk) bl) bl 0 0))), (0, .ref ax), (1, .int (iI (bl))), (2, .int (iI (dp))), (3, .int (iI (sk)))] := hl
  obtain ⟨κ, ν, hinv, hl1⟩ : ∃ (κ : Nat) (ν : Nat), (ν + κ = L + 1) ∧ lv_has ls 6 [(0, .ref ax), (1, .int (iI (bl))), (2, .int (iI (dp))), (3, .int (iI (sk))), (4, .int (iI (itF min (fun j => min (lw j + sk) bl) bl 0 ν))), (5, .int (iI (0 + (ν : Int))))] := ⟨L + 1, 0, (by omega), lv_sub hl [2, 3, 4, 5, 1, 0] rfl⟩
  clear hl
  have hl := hl1
  clear hl1
  induction κ generalizing ν ls with
  | zero =>
    obtain h1 := hinv
    have q2 : -12 ≤ itF min (fun j => min (lw j + sk) bl) bl 0 ν ∧ itF min (fun j => min (lw j + sk) bl) bl 0 ν ≤ 503 := itF_min ν (by omega) (fun j g1 g2 => by have := hlw j (by omega) (by omega); omega)
    refine lv_iload hx hb d_R_passCount_6 (lv_at hl 5 rfl) ?_
    refine lv_aload_n hx hb d_R_passCount_8 rfl (lv_at hl 0 rfl) ?_
    refine va_get (D := D) (ci := 3) (v := .ref aw) (C := R_R) (T := F_R) (N := 1) hx hb hG in_R hown hK hP 0 rfl rfl 0 (by decide) (hG _ g_393) (fun _ h9 => h9) rfl d_R_passCount_9 ?_
    refine ra_alen (z := (L + 1)) hx hb hK hP 1 0 rfl rfl rfl d_R_passCount_12 ?_
    refine ri_icmp_ge (tgt := 37) hx hb d_R_passCount_13 (by decide) (by omega) (by omega) (fun c13 => ?_) (fun c13 => ?_)
    · refine lv_iload_n hx hb d_R_passCount_37 rfl (lv_at hl 1 rfl) ?_
      refine lv_iload hx hb d_R_passCount_38 (lv_at hl 4 rfl) ?_
      refine ri_isub hx hb d_R_passCount_40 ?_
      refine lv_iload_n hx hb d_R_passCount_41 rfl (lv_at hl 2 rfl) ?_
      refine ri_iadd hx hb d_R_passCount_42 ?_
      refine ri_iconst hx hb d_R_passCount_43 ?_
      refine ri_isub hx hb d_R_passCount_44 ?_
      refine lv_iload_n hx hb d_R_passCount_45 rfl (lv_at hl 2 rfl) ?_
      refine ri_idiv hx hb d_R_passCount_46 (by omega) (by omega) (by omega) ?_
      exact re_i hx hb hr hlocks (fun t ht hW => ⟨by rw [show L + 1 = ν by omega], ht⟩) (fun z hz => nomatch hz) (Nat.le_of_ble_eq_true rfl) (Nat.le_of_ble_eq_true rfl) d_R_passCount_47
    · exact absurd c13 (by omega)
  | succ κ ih =>
    obtain h1 := hinv
    have q2 : -12 ≤ itF min (fun j => min (lw j + sk) bl) bl 0 ν ∧ itF min (fun j => min (lw j + sk) bl) bl 0 ν ≤ 503 := itF_min ν (by omega) (fun j g1 g2 => by have := hlw j (by omega) (by omega); omega)
    refine lv_iload hx hb d_R_passCount_6 (lv_at hl 5 rfl) ?_
    refine lv_aload_n hx hb d_R_passCount_8 rfl (lv_at hl 0 rfl) ?_
    refine va_get (D := D) (ci := 3) (v := .ref aw) (C := R_R) (T := F_R) (N := 1) hx hb hG in_R hown hK hP 0 rfl rfl 0 (by decide) (hG _ g_393) (fun _ h9 => h9) rfl d_R_passCount_9 ?_
    refine ra_alen (z := (L + 1)) hx hb hK hP 1 0 rfl rfl rfl d_R_passCount_12 ?_
    refine ri_icmp_ge (tgt := 37) hx hb d_R_passCount_13 (by decide) (by omega) (by omega) (fun c13 => ?_) (fun c13 => ?_)
    · exact absurd c13 (by omega)
    · have q1 := hlw (0 + ν) (by omega) (by omega)
      refine lv_iload hx hb d_R_passCount_16 (lv_at hl 4 rfl) ?_
      refine lv_aload_n hx hb d_R_passCount_18 rfl (lv_at hl 0 rfl) ?_
      refine lv_iload hx hb d_R_passCount_19 (lv_at hl 5 rfl) ?_
      refine lv_iload_n hx hb d_R_passCount_21 rfl (lv_at hl 1 rfl) ?_
      refine lv_iload_n hx hb d_R_passCount_22 rfl (lv_at hl 3 rfl) ?_
      refine rd_call (ex_runV (C := "LathePieces$Reach") (As := [.int (iI (0 + (ν : Int))), .int (iI (bl)), .int (iI (sk))]) (rest := [.int (iI (itF min (fun j => min (lw j + sk) bl) bl 0 ν))]) ⟨hx, hb, hml, hown, hG⟩ (c_R_wantedAt hC ax aw L lw hL hlw (0 + ν) bl sk (by omega) hbl hsk) (cb_code (n := 3) hG g_426 g_15 g_423 rfl rfl (by decide +kernel) ⟨Nat.le_of_ble_eq_true rfl, Nat.le_of_ble_eq_true rfl⟩) (hG _ g_424) (hG _ g_425) (kd_V ⟨fun _ _ _ _ q => q, fun U hU hW => ⟨rfl, la_next h0 (fun _ z => z) hS U hU hW, (by show va_P D classes _ U.heap; rw [hU]; exact hP)⟩⟩ (kd_recv hK hP (q0 := 0) (ci := 3) rfl rfl rfl)) rfl rfl hl.1 rfl (lv_room (Nat.le_of_ble_eq_true rfl)) d_R_passCount_23 ⟨Nat.le_of_ble_eq_true rfl, Nat.le_of_ble_eq_true rfl⟩) (fun v9 h9 => ?_)
      obtain rfl := h9
      show W _ _ _ _ _ _ _ _ _ _ _ _ _ _ _ (F0 m9 26 ls [.int (iI (min (lw (0 + ν) + sk) bl)), .int (iI (itF min (fun j => min (lw j + sk) bl) bl 0 ν))])
      refine rd_call (ex_runS (As := [.int (iI (itF min (fun j => min (lw j + sk) bl) bl 0 ν)), .int (iI (min (lw (0 + ν) + sk) bl))]) (rest := []) ⟨hx, hb, hml, hown, hG⟩ (c_J_min l (itF min (fun j => min (lw j + sk) bl) bl 0 ν) (min (lw (0 + ν) + sk) bl) (by omega) (by omega)) (cb_code (n := 2) hG g_251 g_9 g_384 rfl rfl (by decide +kernel) ⟨Nat.le_of_ble_eq_true rfl, Nat.le_of_ble_eq_true rfl⟩) (hG _ g_250) ⟨fun _ _ _ _ q => q, fun _ _ _ => rfl⟩ rfl rfl hl.1 rfl (lv_room (Nat.le_of_ble_eq_true rfl)) d_R_passCount_26 ⟨Nat.le_of_ble_eq_true rfl, Nat.le_of_ble_eq_true rfl⟩) (fun v9 h9 => ?_)
      obtain rfl := h9
      show W _ _ _ _ _ _ _ _ _ _ _ _ _ _ _ (F0 m9 29 ls [.int (iI (itF min (fun j => min (lw j + sk) bl) bl 0 (ν + 1)))])
      refine lv_istore (lv' := [(4, .int (iI (itF min (fun j => min (lw j + sk) bl) bl 0 (ν + 1)))), (0, .ref ax), (1, .int (iI (bl))), (2, .int (iI (dp))), (3, .int (iI (sk))), (5, .int (iI (0 + (ν : Int))))]) hx hb d_R_passCount_29 hl (by decide) rfl (fun ls hl => ?_)
      refine lv_iinc (v := iI (0 + ((ν + 1 : Nat) : Int))) (lv' := [(5, .int (iI (0 + ((ν + 1 : Nat) : Int)))), (4, .int (iI (itF min (fun j => min (lw j + sk) bl) bl 0 (ν + 1)))), (0, .ref ax), (1, .int (iI (bl))), (2, .int (iI (dp))), (3, .int (iI (sk)))]) hx hb d_R_passCount_31 hl (k := 5) rfl ((ii_add _ _).trans (congrArg iI (by omega))) (by decide) rfl (fun ls hl => ?_)
      refine lv_goto (tgt := 6) hx hb d_R_passCount_34 (by decide) ?_
      exact ih ls (ν + 1) (by omega) (lv_sub hl [2, 3, 4, 5, 1, 0] rfl)

set_option maxHeartbeats 4000000 in
set_option maxRecDepth 100000 in
theorem c_R_liftAt {l : Launch} {s0 : State} {D : va_G} {k : Nat → ClassId} (hC : Cx l s0 D k) (ar ah L n9 : Nat) (r hh : Int → Int) (x : Int) (hL : L ≤ 64) (hn9 : n9 ≤ 12) (hx9 : 0 ≤ x ∧ x ≤ L) (hrr : ∀ j : Int, 0 ≤ j → j ≤ L → 0 ≤ r j ∧ r j ≤ 500) (hhh : ∀ j : Int, 0 ≤ j → j ≤ n9 → 0 ≤ hh j ∧ hh j ≤ 12) : RdM l s0 y_R_liftAt { frames := 1, cells := 0, slots := 0, locals := 21 } [.ref ar, .ref ah, .int (iI (x))] (fun H => va_P D classes ([(ar, .inl (k 0, ai (L + 1) r)), (ah, .inl (k 0, ai (n9 + 1) hh))]) H) (fun v => v = some (.int (iI (itF max (fun y => r y + hh ((y - x).natAbs : Int)) 0 (max (x - n9) 0) (min (x + n9) L - max (x - n9) 0 + 1).toNat)))) := by
  refine ex_ofW (cc := b_R_liftAt) (maxL := 7) (ret := (some .int)) (hh := []) (by decide +kernel) (Or.inl ⟨g_383, rfl⟩) ?_
  intro p9 e9 s m9 args9 below9 meth9 c9 s9 B9 hml htab hv
  obtain ⟨rfl, h0, hP⟩ := hv
  have hx := B9.exec
  have hb := B9.bytes
  have hr := B9.returns
  have hG := atoms_spec (ws := GW) B9.pre
  have hown : s.vm.findClass "LathePieces$Reach" = some m9.cls := findClass_of_methodNamed B9.named
  have hlocks := B9.notSynchronized
  have hK := cx_K hC h0
  have hS : va_S (aL s0) s.heap s.heap [] := va_S.rf
  have hl := lv_entry ([.ref ar, .ref ah, .int (iI (x))]) (n := 7) (Nat.le_of_ble_eq_true rfl)
  rw [lg_entry_eq]
  generalize (lg_sl ([.ref ar, .ref ah, .int (iI (x))]) ++ List.replicate (7 - (lg_sl ([.ref ar, .ref ah, .int (iI (x))])).length) Slot.unset).toArray = ls at hl ⊢
  replace hl : lv_has ls 7 [(0, .ref ar), (1, .ref ah), (2, .int (iI (x)))] := hl
  have g0 : (((L + 1 : Nat) : Int)) - 1 = L := by omega
  refine lv_aload_n hx hb d_R_liftAt_0 rfl (lv_at hl 1 rfl) ?_
  refine ra_alen (z := (n9 + 1)) hx hb hK hP 1 0 rfl rfl rfl d_R_liftAt_1 ?_
  refine ri_iconst hx hb d_R_liftAt_2 ?_
  refine ri_isub hx hb d_R_liftAt_3 ?_
  refine tp_i (congrArg iI (show ((n9 + 1)) - 1 = (n9 : Int) from by omega)) ?_
  refine lv_istore_n (lv' := [(3, .int (iI ((n9 : Int)))), (0, .ref ar), (1, .ref ah), (2, .int (iI (x)))]) hx hb d_R_liftAt_4 rfl hl (by decide) rfl (fun ls hl => ?_)
  refine lv_iload_n hx hb d_R_liftAt_5 rfl (lv_at hl 3 rfl) ?_
  refine lv_iload_n hx hb d_R_liftAt_6 rfl (lv_at hl 0 rfl) ?_
  refine ri_iadd hx hb d_R_liftAt_7 ?_
  refine lv_aload_n hx hb d_R_liftAt_8 rfl (lv_at hl 1 rfl) ?_
  refine ra_alen (z := (L + 1)) hx hb hK hP 0 0 rfl rfl rfl d_R_liftAt_9 ?_
  refine ri_iconst hx hb d_R_liftAt_10 ?_
  refine ri_isub hx hb d_R_liftAt_11 ?_
  refine tp_i (congrArg iI (show ((L + 1)) - 1 = (L : Int) from by omega)) ?_
  refine rd_call (ex_runS (As := [.int (iI (x + ((n9 : Int)))), .int (iI ((L : Int)))]) (rest := []) ⟨hx, hb, hml, hown, hG⟩ (c_J_min l (x + n9) L (by omega) (by omega)) (cb_code (n := 2) hG g_251 g_9 g_384 rfl rfl (by decide +kernel) ⟨Nat.le_of_ble_eq_true rfl, Nat.le_of_ble_eq_true rfl⟩) (hG _ g_250) ⟨fun _ _ _ _ q => q, fun _ _ _ => rfl⟩ rfl rfl hl.1 rfl (lv_room (Nat.le_of_ble_eq_true rfl)) d_R_liftAt_12 ⟨Nat.le_of_ble_eq_true rfl, Nat.le_of_ble_eq_true rfl⟩) (fun v9 h9 => ?_)
  obtain rfl := h9
  show W _ _ _ _ _ _ _ _ _ _ _ _ _ _ _ (F0 m9 15 ls [.int (iI (min (x + n9) L))])
  refine lv_istore (lv' := [(4, .int (iI (min (x + n9) L))), (3, .int (iI ((n9 : Int)))), (0, .ref ar), (1, .ref ah), (2, .int (iI (x)))]) hx hb d_R_liftAt_15 hl (by decide) rfl (fun ls hl => ?_)
  refine ri_iconst hx hb d_R_liftAt_17 ?_
  refine lv_istore (lv' := [(5, .int (iI (0))), (4, .int (iI (min (x + n9) L))), (3, .int (iI ((n9 : Int)))), (0, .ref ar), (1, .ref ah), (2, .int (iI (x)))]) hx hb d_R_liftAt_18 hl (by decide) rfl (fun ls hl => ?_)
  refine lv_iload_n hx hb d_R_liftAt_20 rfl (lv_at hl 5 rfl) ?_
  refine lv_iload_n hx hb d_R_liftAt_21 rfl (lv_at hl 2 rfl) ?_
  refine ri_isub hx hb d_R_liftAt_22 ?_
  refine ri_iconst hx hb d_R_liftAt_23 ?_
  refine rd_call (ex_runS (As := [.int (iI (x - ((n9 : Int)))), .int (iI (0))]) (rest := []) ⟨hx, hb, hml, hown, hG⟩ (c_J_max l (x - n9) 0 (by omega) (by omega)) (cb_code (n := 2) hG g_254 g_9 g_385 rfl rfl (by decide +kernel) ⟨Nat.le_of_ble_eq_true rfl, Nat.le_of_ble_eq_true rfl⟩) (hG _ g_253) ⟨fun _ _ _ _ q => q, fun _ _ _ => rfl⟩ rfl rfl hl.1 rfl (lv_room (Nat.le_of_ble_eq_true rfl)) d_R_liftAt_24 ⟨Nat.le_of_ble_eq_true rfl, Nat.le_of_ble_eq_true rfl⟩) (fun v9 h9 => ?_)
  obtain rfl := h9
  show W _ _ _ _ _ _ _ _ _ _ _ _ _ _ _ (F0 m9 27 ls [.int (iI (max (x - n9) 0))])
  refine lv_istore (lv' := [(6, .int (iI (max (x - n9) 0))), (5, .int (iI (0))), (4, .int (iI (min (x + n9) L))), (3, .int (iI ((n9 : Int)))), (0, .ref ar), (1, .ref ah), (2, .int (iI (x)))]) hx hb d_R_liftAt_27 hl (by decide) rfl (fun ls hl => ?_)
  have g1 : max (x - n9) 0 = max (x - n9) 0 + ((0 : Nat) : Int) := by omega
  replace hl : lv_has ls 7 [(6, .int (iI (max (x - n9) 0 + ((0 : Nat) : Int)))), (5, .int (iI (itF max (fun y => r y + hh ((y - x).natAbs : Int)) 0 (max (x - n9) 0) 0))), (4, .int (iI (min (x + n9) L))), (3, .int (iI (n9 : Int))), (0, .ref ar), (1, .ref ah), (2, .int (iI (x)))] := by rw [← g1]; exact hl
  obtain ⟨κ, ν, hinv, hl1⟩ : ∃ (κ : Nat) (ν : Nat), ((ν : Int) + κ = min (x + n9) L - max (x - n9) 0 + 1) ∧ lv_has ls 7 [(0, .ref ar), (1, .ref ah), (2, .int (iI (x))), (4, .int (iI (min (x + n9) L))), (5, .int (iI (itF max (fun y => r y + hh ((y - x).natAbs : Int)) 0 (max (x - n9) 0) ν))), (6, .int (iI (max (x - n9) 0 + (ν : Int))))] := ⟨(min (x + n9) L - max (x - n9) 0 + 1).toNat, 0, (by omega), lv_sub hl [4, 5, 6, 2, 1, 0] rfl⟩
  clear hl
  have hl := hl1
  clear hl1
  induction κ generalizing ν ls with
  | zero =>
    obtain h1 := hinv
    refine lv_iload hx hb d_R_liftAt_29 (lv_at hl 5 rfl) ?_
    refine lv_iload hx hb d_R_liftAt_31 (lv_at hl 3 rfl) ?_
    refine ri_icmp_gt (tgt := 63) hx hb d_R_liftAt_33 (by decide) (by omega) (by omega) (fun c33 => ?_) (fun c33 => ?_)
    · refine lv_iload hx hb d_R_liftAt_63 (lv_at hl 4 rfl) ?_
      exact re_i hx hb hr hlocks (fun t ht hW => ⟨by rw [show (min (x + n9) L - max (x - n9) 0 + 1).toNat = ν by omega], ht⟩) (fun z hz => nomatch hz) (Nat.le_of_ble_eq_true rfl) (Nat.le_of_ble_eq_true rfl) d_R_liftAt_65
    · exact absurd c33 (by omega)
  | succ κ ih =>
    obtain h1 := hinv
    refine lv_iload hx hb d_R_liftAt_29 (lv_at hl 5 rfl) ?_
    refine lv_iload hx hb d_R_liftAt_31 (lv_at hl 3 rfl) ?_
    refine ri_icmp_gt (tgt := 63) hx hb d_R_liftAt_33 (by decide) (by omega) (by omega) (fun c33 => ?_) (fun c33 => ?_)
    · exact absurd c33 (by omega)
    · have q1 := hrr (max (x - n9) 0 + ν) (by omega) (by omega)
      have q2 := hhh (((max (x - n9) 0 + ν - x).natAbs : Nat) : Int) (by omega) (by omega)
      have q3 : 0 ≤ itF max (fun y => r y + hh ((y - x).natAbs : Int)) 0 (max (x - n9) 0) ν ∧ itF max (fun y => r y + hh ((y - x).natAbs : Int)) 0 (max (x - n9) 0) ν ≤ 512 := itF_max ν (by omega) (fun j g2 g3 => by have := hrr j (by omega) (by omega); have := hhh (((j - x).natAbs : Nat) : Int) (by omega) (by omega); omega)
      refine lv_iload hx hb d_R_liftAt_36 (lv_at hl 4 rfl) ?_
      refine lv_aload_n hx hb d_R_liftAt_38 rfl (lv_at hl 0 rfl) ?_
      refine lv_iload hx hb d_R_liftAt_39 (lv_at hl 5 rfl) ?_
      refine ra_iald hx hb hK hP 0 rfl (by omega) (by omega) d_R_liftAt_41 ?_
      refine lv_aload_n hx hb d_R_liftAt_42 rfl (lv_at hl 1 rfl) ?_
      refine lv_iload hx hb d_R_liftAt_43 (lv_at hl 5 rfl) ?_
      refine lv_iload_n hx hb d_R_liftAt_45 rfl (lv_at hl 2 rfl) ?_
      refine ri_isub hx hb d_R_liftAt_46 ?_
      refine rd_call (ex_runS (As := [.int (iI ((max (x - n9) 0 + (ν : Int)) - x))]) (rest := [.ref ah, .int (iI (r (max (x - n9) 0 + (ν : Int)))), .int (iI (itF max (fun y => r y + hh ((y - x).natAbs : Int)) 0 (max (x - n9) 0) ν))]) ⟨hx, hb, hml, hown, hG⟩ (c_J_abs l (max (x - n9) 0 + ν - x) (by omega)) (cb_code (n := 1) hG g_388 g_9 g_386 rfl rfl (by decide +kernel) ⟨Nat.le_of_ble_eq_true rfl, Nat.le_of_ble_eq_true rfl⟩) (hG _ g_387) ⟨fun _ _ _ _ q => q, fun _ _ _ => rfl⟩ rfl rfl hl.1 rfl (lv_room (Nat.le_of_ble_eq_true rfl)) d_R_liftAt_47 ⟨Nat.le_of_ble_eq_true rfl, Nat.le_of_ble_eq_true rfl⟩) (fun v9 h9 => ?_)
      obtain rfl := h9
      show W _ _ _ _ _ _ _ _ _ _ _ _ _ _ _ (F0 m9 50 ls [.int (iI (((max (x - n9) 0 + ν - x).natAbs : Int))), .ref ah, .int (iI (r (max (x - n9) 0 + (ν : Int)))), .int (iI (itF max (fun y => r y + hh ((y - x).natAbs : Int)) 0 (max (x - n9) 0) ν))])
      refine ra_iald hx hb hK hP 1 rfl (by omega) (by omega) d_R_liftAt_50 ?_
      refine ri_iadd hx hb d_R_liftAt_51 ?_
      refine rd_call (ex_runS (As := [.int (iI (itF max (fun y => r y + hh ((y - x).natAbs : Int)) 0 (max (x - n9) 0) ν)), .int (iI ((r (max (x - n9) 0 + (ν : Int))) + (hh (((max (x - n9) 0 + ν - x).natAbs : Int)))))]) (rest := []) ⟨hx, hb, hml, hown, hG⟩ (c_J_max l (itF max (fun y => r y + hh ((y - x).natAbs : Int)) 0 (max (x - n9) 0) ν) (r (max (x - n9) 0 + ν) + hh ((max (x - n9) 0 + ν - x).natAbs : Int)) (by omega) (by omega)) (cb_code (n := 2) hG g_254 g_9 g_385 rfl rfl (by decide +kernel) ⟨Nat.le_of_ble_eq_true rfl, Nat.le_of_ble_eq_true rfl⟩) (hG _ g_253) ⟨fun _ _ _ _ q => q, fun _ _ _ => rfl⟩ rfl rfl hl.1 rfl (lv_room (Nat.le_of_ble_eq_true rfl)) d_R_liftAt_52 ⟨Nat.le_of_ble_eq_true rfl, Nat.le_of_ble_eq_true rfl⟩) (fun v9 h9 => ?_)
      obtain rfl := h9
      show W _ _ _ _ _ _ _ _ _ _ _ _ _ _ _ (F0 m9 55 ls [.int (iI (itF max (fun y => r y + hh ((y - x).natAbs : Int)) 0 (max (x - n9) 0) (ν + 1)))])
      refine lv_istore (lv' := [(5, .int (iI (itF max (fun y => r y + hh ((y - x).natAbs : Int)) 0 (max (x - n9) 0) (ν + 1)))), (0, .ref ar), (1, .ref ah), (2, .int (iI (x))), (4, .int (iI (min (x + n9) L))), (6, .int (iI (max (x - n9) 0 + (ν : Int))))]) hx hb d_R_liftAt_55 hl (by decide) rfl (fun ls hl => ?_)
      refine lv_iinc (v := iI (max (x - n9) 0 + ((ν + 1 : Nat) : Int))) (lv' := [(6, .int (iI (max (x - n9) 0 + ((ν + 1 : Nat) : Int)))), (5, .int (iI (itF max (fun y => r y + hh ((y - x).natAbs : Int)) 0 (max (x - n9) 0) (ν + 1)))), (0, .ref ar), (1, .ref ah), (2, .int (iI (x))), (4, .int (iI (min (x + n9) L)))]) hx hb d_R_liftAt_57 hl (k := 5) rfl ((ii_add _ _).trans (congrArg iI (by omega))) (by decide) rfl (fun ls hl => ?_)
      refine lv_goto (tgt := 29) hx hb d_R_liftAt_60 (by decide) ?_
      exact ih ls (ν + 1) (by omega) (lv_sub hl [2, 3, 4, 5, 1, 0] rfl)

set_option maxHeartbeats 4000000 in
set_option maxRecDepth 100000 in
theorem c_R_lowAt {l : Launch} {s0 : State} {D : va_G} {k : Nat → ClassId} (hC : Cx l s0 D k) (ar ah L n9 : Nat) (r hh : Int → Int) (x : Int) (hL : L ≤ 64) (hn9 : n9 ≤ 12) (hx9 : 0 ≤ x ∧ x ≤ L) (hrr : ∀ j : Int, 0 ≤ j → j ≤ L → 0 ≤ r j ∧ r j ≤ 512) (hhh : ∀ j : Int, 0 ≤ j → j ≤ n9 → 0 ≤ hh j ∧ hh j ≤ 12) : RdM l s0 y_R_lowAt { frames := 1, cells := 0, slots := 0, locals := 21 } [.ref ar, .ref ah, .int (iI (x))] (fun H => va_P D classes ([(ar, .inl (k 0, ai (L + 1) r)), (ah, .inl (k 0, ai (n9 + 1) hh))]) H) (fun v => v = some (.int (iI (itF min (fun y => r y - hh ((y - x).natAbs : Int)) 2147483647 (max (x - n9) 0) (min (x + n9) L - max (x - n9) 0 + 1).toNat)))) := by
  refine ex_ofW (cc := b_R_lowAt) (maxL := 7) (ret := (some .int)) (hh := []) (by decide +kernel) (Or.inl ⟨g_391, rfl⟩) ?_
  intro p9 e9 s m9 args9 below9 meth9 c9 s9 B9 hml htab hv
  obtain ⟨rfl, h0, hP⟩ := hv
  have hx := B9.exec
  have hb := B9.bytes
  have hr := B9.returns
  have hG := atoms_spec (ws := GW) B9.pre
  have hown : s.vm.findClass "LathePieces$Reach" = some m9.cls := findClass_of_methodNamed B9.named
  have hlocks := B9.notSynchronized
  have hK := cx_K hC h0
  have hS : va_S (aL s0) s.heap s.heap [] := va_S.rf
  have hl := lv_entry ([.ref ar, .ref ah, .int (iI (x))]) (n := 7) (Nat.le_of_ble_eq_true rfl)
  rw [lg_entry_eq]
  generalize (lg_sl ([.ref ar, .ref ah, .int (iI (x))]) ++ List.replicate (7 - (lg_sl ([.ref ar, .ref ah, .int (iI (x))])).length) Slot.unset).toArray = ls at hl ⊢
  replace hl : lv_has ls 7 [(0, .ref ar), (1, .ref ah), (2, .int (iI (x)))] := hl
  have g0 : (((L + 1 : Nat) : Int)) - 1 = L := by omega
  refine lv_aload_n hx hb d_R_lowAt_0 rfl (lv_at hl 1 rfl) ?_
  refine ra_alen (z := (n9 + 1)) hx hb hK hP 1 0 rfl rfl rfl d_R_lowAt_1 ?_
  refine ri_iconst hx hb d_R_lowAt_2 ?_
  refine ri_isub hx hb d_R_lowAt_3 ?_
  refine tp_i (congrArg iI (show ((n9 + 1)) - 1 = (n9 : Int) from by omega)) ?_
  refine lv_istore_n (lv' := [(3, .int (iI ((n9 : Int)))), (0, .ref ar), (1, .ref ah), (2, .int (iI (x)))]) hx hb d_R_lowAt_4 rfl hl (by decide) rfl (fun ls hl => ?_)
  refine lv_iload_n hx hb d_R_lowAt_5 rfl (lv_at hl 3 rfl) ?_
  refine lv_iload_n hx hb d_R_lowAt_6 rfl (lv_at hl 0 rfl) ?_
  refine ri_iadd hx hb d_R_lowAt_7 ?_
  refine lv_aload_n hx hb d_R_lowAt_8 rfl (lv_at hl 1 rfl) ?_
  refine ra_alen (z := (L + 1)) hx hb hK hP 0 0 rfl rfl rfl d_R_lowAt_9 ?_
  refine ri_iconst hx hb d_R_lowAt_10 ?_
  refine ri_isub hx hb d_R_lowAt_11 ?_
  refine tp_i (congrArg iI (show ((L + 1)) - 1 = (L : Int) from by omega)) ?_
  refine rd_call (ex_runS (As := [.int (iI (x + ((n9 : Int)))), .int (iI ((L : Int)))]) (rest := []) ⟨hx, hb, hml, hown, hG⟩ (c_J_min l (x + n9) L (by omega) (by omega)) (cb_code (n := 2) hG g_251 g_9 g_384 rfl rfl (by decide +kernel) ⟨Nat.le_of_ble_eq_true rfl, Nat.le_of_ble_eq_true rfl⟩) (hG _ g_250) ⟨fun _ _ _ _ q => q, fun _ _ _ => rfl⟩ rfl rfl hl.1 rfl (lv_room (Nat.le_of_ble_eq_true rfl)) d_R_lowAt_12 ⟨Nat.le_of_ble_eq_true rfl, Nat.le_of_ble_eq_true rfl⟩) (fun v9 h9 => ?_)
  obtain rfl := h9
  show W _ _ _ _ _ _ _ _ _ _ _ _ _ _ _ (F0 m9 15 ls [.int (iI (min (x + n9) L))])
  refine lv_istore (lv' := [(4, .int (iI (min (x + n9) L))), (3, .int (iI ((n9 : Int)))), (0, .ref ar), (1, .ref ah), (2, .int (iI (x)))]) hx hb d_R_lowAt_15 hl (by decide) rfl (fun ls hl => ?_)
  refine lv_ldc (v := iI 2147483647) hx hb hown (hG _ g_392) d_R_lowAt_17 ?_
  refine lv_istore (lv' := [(5, .int (iI (2147483647))), (4, .int (iI (min (x + n9) L))), (3, .int (iI ((n9 : Int)))), (0, .ref ar), (1, .ref ah), (2, .int (iI (x)))]) hx hb d_R_lowAt_19 hl (by decide) rfl (fun ls hl => ?_)
  refine lv_iload_n hx hb d_R_lowAt_21 rfl (lv_at hl 5 rfl) ?_
  refine lv_iload_n hx hb d_R_lowAt_22 rfl (lv_at hl 2 rfl) ?_
  refine ri_isub hx hb d_R_lowAt_23 ?_
  refine ri_iconst hx hb d_R_lowAt_24 ?_
  refine rd_call (ex_runS (As := [.int (iI (x - ((n9 : Int)))), .int (iI (0))]) (rest := []) ⟨hx, hb, hml, hown, hG⟩ (c_J_max l (x - n9) 0 (by omega) (by omega)) (cb_code (n := 2) hG g_254 g_9 g_385 rfl rfl (by decide +kernel) ⟨Nat.le_of_ble_eq_true rfl, Nat.le_of_ble_eq_true rfl⟩) (hG _ g_253) ⟨fun _ _ _ _ q => q, fun _ _ _ => rfl⟩ rfl rfl hl.1 rfl (lv_room (Nat.le_of_ble_eq_true rfl)) d_R_lowAt_25 ⟨Nat.le_of_ble_eq_true rfl, Nat.le_of_ble_eq_true rfl⟩) (fun v9 h9 => ?_)
  obtain rfl := h9
  show W _ _ _ _ _ _ _ _ _ _ _ _ _ _ _ (F0 m9 28 ls [.int (iI (max (x - n9) 0))])
  refine lv_istore (lv' := [(6, .int (iI (max (x - n9) 0))), (5, .int (iI (2147483647))), (4, .int (iI (min (x + n9) L))), (3, .int (iI ((n9 : Int)))), (0, .ref ar), (1, .ref ah), (2, .int (iI (x)))]) hx hb d_R_lowAt_28 hl (by decide) rfl (fun ls hl => ?_)
  have g1 : max (x - n9) 0 = max (x - n9) 0 + ((0 : Nat) : Int) := by omega
  replace hl : lv_has ls 7 [(6, .int (iI (max (x - n9) 0 + ((0 : Nat) : Int)))), (5, .int (iI (itF min (fun y => r y - hh ((y - x).natAbs : Int)) 2147483647 (max (x - n9) 0) 0))), (4, .int (iI (min (x + n9) L))), (3, .int (iI (n9 : Int))), (0, .ref ar), (1, .ref ah), (2, .int (iI (x)))] := by rw [← g1]; exact hl
  obtain ⟨κ, ν, hinv, hl1⟩ : ∃ (κ : Nat) (ν : Nat), ((ν : Int) + κ = min (x + n9) L - max (x - n9) 0 + 1) ∧ lv_has ls 7 [(0, .ref ar), (1, .ref ah), (2, .int (iI (x))), (4, .int (iI (min (x + n9) L))), (5, .int (iI (itF min (fun y => r y - hh ((y - x).natAbs : Int)) 2147483647 (max (x - n9) 0) ν))), (6, .int (iI (max (x - n9) 0 + (ν : Int))))] := ⟨(min (x + n9) L - max (x - n9) 0 + 1).toNat, 0, (by omega), lv_sub hl [4, 5, 6, 2, 1, 0] rfl⟩
  clear hl
  have hl := hl1
  clear hl1
  induction κ generalizing ν ls with
  | zero =>
    obtain h1 := hinv
    refine lv_iload hx hb d_R_lowAt_30 (lv_at hl 5 rfl) ?_
    refine lv_iload hx hb d_R_lowAt_32 (lv_at hl 3 rfl) ?_
    refine ri_icmp_gt (tgt := 64) hx hb d_R_lowAt_34 (by decide) (by omega) (by omega) (fun c34 => ?_) (fun c34 => ?_)
    · refine lv_iload hx hb d_R_lowAt_64 (lv_at hl 4 rfl) ?_
      exact re_i hx hb hr hlocks (fun t ht hW => ⟨by rw [show (min (x + n9) L - max (x - n9) 0 + 1).toNat = ν by omega], ht⟩) (fun z hz => nomatch hz) (Nat.le_of_ble_eq_true rfl) (Nat.le_of_ble_eq_true rfl) d_R_lowAt_66
    · exact absurd c34 (by omega)
  | succ κ ih =>
    obtain h1 := hinv
    refine lv_iload hx hb d_R_lowAt_30 (lv_at hl 5 rfl) ?_
    refine lv_iload hx hb d_R_lowAt_32 (lv_at hl 3 rfl) ?_
    refine ri_icmp_gt (tgt := 64) hx hb d_R_lowAt_34 (by decide) (by omega) (by omega) (fun c34 => ?_) (fun c34 => ?_)
    · exact absurd c34 (by omega)
    · have q1 := hrr (max (x - n9) 0 + ν) (by omega) (by omega)
      have q2 := hhh (((max (x - n9) 0 + ν - x).natAbs : Nat) : Int) (by omega) (by omega)
      have q3 : -12 ≤ itF min (fun y => r y - hh ((y - x).natAbs : Int)) 2147483647 (max (x - n9) 0) ν ∧ itF min (fun y => r y - hh ((y - x).natAbs : Int)) 2147483647 (max (x - n9) 0) ν ≤ 2147483647 := itF_min ν (by omega) (fun j g2 g3 => by have := hrr j (by omega) (by omega); have := hhh (((j - x).natAbs : Nat) : Int) (by omega) (by omega); omega)
      refine lv_iload hx hb d_R_lowAt_37 (lv_at hl 4 rfl) ?_
      refine lv_aload_n hx hb d_R_lowAt_39 rfl (lv_at hl 0 rfl) ?_
      refine lv_iload hx hb d_R_lowAt_40 (lv_at hl 5 rfl) ?_
      refine ra_iald hx hb hK hP 0 rfl (by omega) (by omega) d_R_lowAt_42 ?_
      refine lv_aload_n hx hb d_R_lowAt_43 rfl (lv_at hl 1 rfl) ?_
      refine lv_iload hx hb d_R_lowAt_44 (lv_at hl 5 rfl) ?_
      refine lv_iload_n hx hb d_R_lowAt_46 rfl (lv_at hl 2 rfl) ?_
      refine ri_isub hx hb d_R_lowAt_47 ?_
      refine rd_call (ex_runS (As := [.int (iI ((max (x - n9) 0 + (ν : Int)) - x))]) (rest := [.ref ah, .int (iI (r (max (x - n9) 0 + (ν : Int)))), .int (iI (itF min (fun y => r y - hh ((y - x).natAbs : Int)) 2147483647 (max (x - n9) 0) ν))]) ⟨hx, hb, hml, hown, hG⟩ (c_J_abs l (max (x - n9) 0 + ν - x) (by omega)) (cb_code (n := 1) hG g_388 g_9 g_386 rfl rfl (by decide +kernel) ⟨Nat.le_of_ble_eq_true rfl, Nat.le_of_ble_eq_true rfl⟩) (hG _ g_387) ⟨fun _ _ _ _ q => q, fun _ _ _ => rfl⟩ rfl rfl hl.1 rfl (lv_room (Nat.le_of_ble_eq_true rfl)) d_R_lowAt_48 ⟨Nat.le_of_ble_eq_true rfl, Nat.le_of_ble_eq_true rfl⟩) (fun v9 h9 => ?_)
      obtain rfl := h9
      show W _ _ _ _ _ _ _ _ _ _ _ _ _ _ _ (F0 m9 51 ls [.int (iI (((max (x - n9) 0 + ν - x).natAbs : Int))), .ref ah, .int (iI (r (max (x - n9) 0 + (ν : Int)))), .int (iI (itF min (fun y => r y - hh ((y - x).natAbs : Int)) 2147483647 (max (x - n9) 0) ν))])
      refine ra_iald hx hb hK hP 1 rfl (by omega) (by omega) d_R_lowAt_51 ?_
      refine ri_isub hx hb d_R_lowAt_52 ?_
      refine rd_call (ex_runS (As := [.int (iI (itF min (fun y => r y - hh ((y - x).natAbs : Int)) 2147483647 (max (x - n9) 0) ν)), .int (iI ((r (max (x - n9) 0 + (ν : Int))) - (hh (((max (x - n9) 0 + ν - x).natAbs : Int)))))]) (rest := []) ⟨hx, hb, hml, hown, hG⟩ (c_J_min l (itF min (fun y => r y - hh ((y - x).natAbs : Int)) 2147483647 (max (x - n9) 0) ν) (r (max (x - n9) 0 + ν) - hh ((max (x - n9) 0 + ν - x).natAbs : Int)) (by omega) (by omega)) (cb_code (n := 2) hG g_251 g_9 g_384 rfl rfl (by decide +kernel) ⟨Nat.le_of_ble_eq_true rfl, Nat.le_of_ble_eq_true rfl⟩) (hG _ g_250) ⟨fun _ _ _ _ q => q, fun _ _ _ => rfl⟩ rfl rfl hl.1 rfl (lv_room (Nat.le_of_ble_eq_true rfl)) d_R_lowAt_53 ⟨Nat.le_of_ble_eq_true rfl, Nat.le_of_ble_eq_true rfl⟩) (fun v9 h9 => ?_)
      obtain rfl := h9
      show W _ _ _ _ _ _ _ _ _ _ _ _ _ _ _ (F0 m9 56 ls [.int (iI (itF min (fun y => r y - hh ((y - x).natAbs : Int)) 2147483647 (max (x - n9) 0) (ν + 1)))])
      refine lv_istore (lv' := [(5, .int (iI (itF min (fun y => r y - hh ((y - x).natAbs : Int)) 2147483647 (max (x - n9) 0) (ν + 1)))), (0, .ref ar), (1, .ref ah), (2, .int (iI (x))), (4, .int (iI (min (x + n9) L))), (6, .int (iI (max (x - n9) 0 + (ν : Int))))]) hx hb d_R_lowAt_56 hl (by decide) rfl (fun ls hl => ?_)
      refine lv_iinc (v := iI (max (x - n9) 0 + ((ν + 1 : Nat) : Int))) (lv' := [(6, .int (iI (max (x - n9) 0 + ((ν + 1 : Nat) : Int)))), (5, .int (iI (itF min (fun y => r y - hh ((y - x).natAbs : Int)) 2147483647 (max (x - n9) 0) (ν + 1)))), (0, .ref ar), (1, .ref ah), (2, .int (iI (x))), (4, .int (iI (min (x + n9) L)))]) hx hb d_R_lowAt_58 hl (k := 5) rfl ((ii_add _ _).trans (congrArg iI (by omega))) (by decide) rfl (fun ls hl => ?_)
      refine lv_goto (tgt := 30) hx hb d_R_lowAt_61 (by decide) ?_
      exact ih ls (ν + 1) (by omega) (lv_sub hl [2, 3, 4, 5, 1, 0] rfl)
end
section
/-- f on the n places from lo on, else r -/
def seqF (r f : Int → Int) (lo : Int) (n : Nat) : Int → Int := fun j => if lo ≤ j ∧ j < lo + n then f j else r j
theorem seqF_0 (r f : Int → Int) (lo : Int) : seqF r f lo 0 = r := by
  funext j
  exact if_neg (by omega)
theorem seqF_s (r f : Int → Int) (lo : Int) (n : Nat) : zU (seqF r f lo n) (lo + n) (f (lo + n)) = seqF r f lo (n + 1) := by
  funext j
  unfold zU seqF
  by_cases h : j = lo + n
  · subst h
    rw [if_pos rfl, if_pos (by omega)]
  · rw [if_neg h]
    by_cases h2 : lo ≤ j ∧ j < lo + n
    · rw [if_pos h2, if_pos (by omega)]
    · rw [if_neg h2, if_neg (by omega)]
theorem seqF_in {r f : Int → Int} {lo j : Int} {n : Nat} (h : lo ≤ j ∧ j < lo + n) : seqF r f lo n j = f j := if_pos h
theorem seqF_out {r f : Int → Int} {lo j : Int} {n : Nat} (h : ¬ (lo ≤ j ∧ j < lo + n)) : seqF r f lo n j = r j := if_neg h
set_option maxHeartbeats 4000000 in
set_option maxRecDepth 100000 in
theorem c_F_begin {l : Launch} {s0 : State} {D : va_G} {k : Nat → ClassId} (hC : Cx l s0 D k) (af ar : Nat) (bg la lr wy : Int) (r : Int → Int) (wr : va_W) (rd : Int) : WdM l s0 D y_F_begin { frames := 0, cells := 0, slots := 0, locals := 0 } [.ref af, .int (iI (rd))] ((af, .inr (2, [.ref ar, .int (iI (bg)), .int (iI (la)), .int (iI (lr)), .int (iI (wy))])) :: (ar, .inl (k 0, ai 65 r)) :: wr) (fun v ws' => v = none ∧ ws' = ((af, .inr (2, [.ref ar, .int (iI (1)), .int (iI (0)), .int (iI (rd)), .int (iI (0))])) :: (ar, .inl (k 0, ai 65 (zU r (0) (rd)))) :: wr)) (fun E ws' => False) 0 0 := by
  refine ex_ofW (cc := b_F_begin) (maxL := 2) (ret := none) (hh := []) (by decide +kernel) (Or.inl ⟨g_184, rfl⟩) ?_
  intro p9 e9 s m9 args9 below9 meth9 c9 s9 B9 hml htab hv
  obtain ⟨rfl, h0, hP, hD⟩ := hv
  have hx := B9.exec
  have hb := B9.bytes
  have hr := B9.returns
  have hG := atoms_spec (ws := GW) B9.pre
  have hown : s.vm.findClass "LathePieces$Profile" = some m9.cls := findClass_of_methodNamed B9.named
  have hlocks := B9.notSynchronized
  have hK := cx_K hC h0
  have hS : va_S (aL s0) s.heap s.heap [] := va_S.rf
  have hA : ∀ q : Nat, s.heap.size ≤ q → aL s0 q := fun q h => Nat.le_trans h0.2.1 h
  have hl := lv_entry ([.ref af, .int (iI (rd))]) (n := 2) (Nat.le_of_ble_eq_true rfl)
  rw [lg_entry_eq]
  generalize (lg_sl ([.ref af, .int (iI (rd))]) ++ List.replicate (2 - (lg_sl ([.ref af, .int (iI (rd))])).length) Slot.unset).toArray = ls at hl ⊢
  replace hl : lv_has ls 2 [(0, .ref af), (1, .int (iI (rd)))] := hl
  refine lv_aload_n hx hb d_F_begin_0 rfl (lv_at hl 0 rfl) ?_
  refine ri_iconst hx hb d_F_begin_1 ?_
  refine va_put (D := D) (ci := 2) (v := .int (iI (1))) (ty := .boolean) (C := R_F) (T := F_F) (N := 5) hx hb hG in_F t_F t_F_ok n_F hown hK hP hD hS 0 rfl rfl 1 (by decide) (hG _ g_33) (fun _ h9 => h9) rfl (by decide +kernel) rfl rfl (Nat.le_of_ble_eq_true rfl) d_F_begin_2 (fun H locs hP hD hS => ?_)
  have hP : va_P D classes ((af, .inr (2, [.ref ar, .int (iI (1)), .int (iI (la)), .int (iI (lr)), .int (iI (wy))])) :: (ar, .inl (k 0, ai 65 r)) :: wr) H := hP
  have hD : va_D (fun q : Nat => s0.heap.size ≤ q) ((af, .inr (2, [.ref ar, .int (iI (1)), .int (iI (la)), .int (iI (lr)), .int (iI (wy))])) :: (ar, .inl (k 0, ai 65 r)) :: wr) := hD
  refine lv_aload_n hx hb d_F_begin_5 rfl (lv_at hl 0 rfl) ?_
  refine ri_iconst hx hb d_F_begin_6 ?_
  refine va_put (D := D) (ci := 2) (v := .int (iI (0))) (ty := .int) (C := R_F) (T := F_F) (N := 5) hx hb hG in_F t_F t_F_ok n_F hown hK hP hD hS 0 rfl rfl 2 (by decide) (hG _ g_36) (fun _ h9 => h9) rfl (by decide +kernel) rfl rfl (Nat.le_of_ble_eq_true rfl) d_F_begin_7 (fun H locs hP hD hS => ?_)
  have hP : va_P D classes ((af, .inr (2, [.ref ar, .int (iI (1)), .int (iI (0)), .int (iI (lr)), .int (iI (wy))])) :: (ar, .inl (k 0, ai 65 r)) :: wr) H := hP
  have hD : va_D (fun q : Nat => s0.heap.size ≤ q) ((af, .inr (2, [.ref ar, .int (iI (1)), .int (iI (0)), .int (iI (lr)), .int (iI (wy))])) :: (ar, .inl (k 0, ai 65 r)) :: wr) := hD
  refine lv_aload_n hx hb d_F_begin_10 rfl (lv_at hl 0 rfl) ?_
  refine lv_iload_n hx hb d_F_begin_11 rfl (lv_at hl 1 rfl) ?_
  refine va_put (D := D) (ci := 2) (v := .int (iI (rd))) (ty := .int) (C := R_F) (T := F_F) (N := 5) hx hb hG in_F t_F t_F_ok n_F hown hK hP hD hS 0 rfl rfl 3 (by decide) (hG _ g_38) (fun _ h9 => h9) rfl (by decide +kernel) rfl rfl (Nat.le_of_ble_eq_true rfl) d_F_begin_12 (fun H locs hP hD hS => ?_)
  have hP : va_P D classes ((af, .inr (2, [.ref ar, .int (iI (1)), .int (iI (0)), .int (iI (rd)), .int (iI (wy))])) :: (ar, .inl (k 0, ai 65 r)) :: wr) H := hP
  have hD : va_D (fun q : Nat => s0.heap.size ≤ q) ((af, .inr (2, [.ref ar, .int (iI (1)), .int (iI (0)), .int (iI (rd)), .int (iI (wy))])) :: (ar, .inl (k 0, ai 65 r)) :: wr) := hD
  refine lv_aload_n hx hb d_F_begin_15 rfl (lv_at hl 0 rfl) ?_
  refine ri_iconst hx hb d_F_begin_16 ?_
  refine va_put (D := D) (ci := 2) (v := .int (iI (0))) (ty := .int) (C := R_F) (T := F_F) (N := 5) hx hb hG in_F t_F t_F_ok n_F hown hK hP hD hS 0 rfl rfl 4 (by decide) (hG _ g_40) (fun _ h9 => h9) rfl (by decide +kernel) rfl rfl (Nat.le_of_ble_eq_true rfl) d_F_begin_17 (fun H locs hP hD hS => ?_)
  have hP : va_P D classes ((af, .inr (2, [.ref ar, .int (iI (1)), .int (iI (0)), .int (iI (rd)), .int (iI (0))])) :: (ar, .inl (k 0, ai 65 r)) :: wr) H := hP
  have hD : va_D (fun q : Nat => s0.heap.size ≤ q) ((af, .inr (2, [.ref ar, .int (iI (1)), .int (iI (0)), .int (iI (rd)), .int (iI (0))])) :: (ar, .inl (k 0, ai 65 r)) :: wr) := hD
  refine lv_aload_n hx hb d_F_begin_20 rfl (lv_at hl 0 rfl) ?_
  refine va_get (D := D) (ci := 2) (v := .ref ar) (C := R_F) (T := F_F) (N := 5) hx hb hG in_F hown hK hP 0 rfl rfl 0 (by decide) (hG _ g_32) (fun _ h9 => h9) rfl d_F_begin_21 ?_
  refine ri_iconst hx hb d_F_begin_24 ?_
  refine lv_iload_n hx hb d_F_begin_25 rfl (lv_at hl 1 rfl) ?_
  refine ra_iast (v := rd) hx hb hK hP hD hS 1 rfl (by omega) (by omega) d_F_begin_26 (fun H locs hP hD hS => ?_)
  have hP : va_P D classes ((af, .inr (2, [.ref ar, .int (iI (1)), .int (iI (0)), .int (iI (rd)), .int (iI (0))])) :: (ar, .inl (k 0, ai 65 (zU r (0) (rd)))) :: wr) H := hP
  have hD : va_D (fun q : Nat => s0.heap.size ≤ q) ((af, .inr (2, [.ref ar, .int (iI (1)), .int (iI (0)), .int (iI (rd)), .int (iI (0))])) :: (ar, .inl (k 0, ai 65 (zU r (0) (rd)))) :: wr) := hD
  exact re_v hx hb hr hlocks (fun t ht hW => ⟨_, ⟨rfl, rfl⟩, wd_next h0 hS hP hD t ht hW⟩) hS.2.2 (Nat.le_of_ble_eq_true rfl) (Nat.le_of_ble_eq_true rfl) d_F_begin_27

set_option maxHeartbeats 4000000 in
set_option maxRecDepth 100000 in
theorem c_F_goOnFrom {l : Launch} {s0 : State} {D : va_G} {k : Nat → ClassId} (hC : Cx l s0 D k) (af ar : Nat) (bg la lr wy : Int) (r : Int → Int) (wr : va_W) (at9 rd : Int) : WdM l s0 D y_F_goOnFrom { frames := 0, cells := 0, slots := 0, locals := 0 } [.ref af, .int (iI (at9)), .int (iI (rd))] ((af, .inr (2, [.ref ar, .int (iI (bg)), .int (iI (la)), .int (iI (lr)), .int (iI (wy))])) :: (ar, .inl (k 0, ai 65 r)) :: wr) (fun v ws' => v = none ∧ ws' = ((af, .inr (2, [.ref ar, .int (iI (bg)), .int (iI (at9)), .int (iI (rd)), .int (iI (wy + 1))])) :: (ar, .inl (k 0, ai 65 r)) :: wr)) (fun E ws' => False) 0 0 := by
  refine ex_ofW (cc := b_F_goOnFrom) (maxL := 3) (ret := none) (hh := []) (by decide +kernel) (Or.inl ⟨g_227, rfl⟩) ?_
  intro p9 e9 s m9 args9 below9 meth9 c9 s9 B9 hml htab hv
  obtain ⟨rfl, h0, hP, hD⟩ := hv
  have hx := B9.exec
  have hb := B9.bytes
  have hr := B9.returns
  have hG := atoms_spec (ws := GW) B9.pre
  have hown : s.vm.findClass "LathePieces$Profile" = some m9.cls := findClass_of_methodNamed B9.named
  have hlocks := B9.notSynchronized
  have hK := cx_K hC h0
  have hS : va_S (aL s0) s.heap s.heap [] := va_S.rf
  have hA : ∀ q : Nat, s.heap.size ≤ q → aL s0 q := fun q h => Nat.le_trans h0.2.1 h
  have hl := lv_entry ([.ref af, .int (iI (at9)), .int (iI (rd))]) (n := 3) (Nat.le_of_ble_eq_true rfl)
  rw [lg_entry_eq]
  generalize (lg_sl ([.ref af, .int (iI (at9)), .int (iI (rd))]) ++ List.replicate (3 - (lg_sl ([.ref af, .int (iI (at9)), .int (iI (rd))])).length) Slot.unset).toArray = ls at hl ⊢
  replace hl : lv_has ls 3 [(0, .ref af), (1, .int (iI (at9))), (2, .int (iI (rd)))] := hl
  refine lv_aload_n hx hb d_F_goOnFrom_0 rfl (lv_at hl 0 rfl) ?_
  refine lv_iload_n hx hb d_F_goOnFrom_1 rfl (lv_at hl 1 rfl) ?_
  refine va_put (D := D) (ci := 2) (v := .int (iI (at9))) (ty := .int) (C := R_F) (T := F_F) (N := 5) hx hb hG in_F t_F t_F_ok n_F hown hK hP hD hS 0 rfl rfl 2 (by decide) (hG _ g_36) (fun _ h9 => h9) rfl (by decide +kernel) rfl rfl (Nat.le_of_ble_eq_true rfl) d_F_goOnFrom_2 (fun H locs hP hD hS => ?_)
  have hP : va_P D classes ((af, .inr (2, [.ref ar, .int (iI (bg)), .int (iI (at9)), .int (iI (lr)), .int (iI (wy))])) :: (ar, .inl (k 0, ai 65 r)) :: wr) H := hP
  have hD : va_D (fun q : Nat => s0.heap.size ≤ q) ((af, .inr (2, [.ref ar, .int (iI (bg)), .int (iI (at9)), .int (iI (lr)), .int (iI (wy))])) :: (ar, .inl (k 0, ai 65 r)) :: wr) := hD
  refine lv_aload_n hx hb d_F_goOnFrom_5 rfl (lv_at hl 0 rfl) ?_
  refine lv_iload_n hx hb d_F_goOnFrom_6 rfl (lv_at hl 2 rfl) ?_
  refine va_put (D := D) (ci := 2) (v := .int (iI (rd))) (ty := .int) (C := R_F) (T := F_F) (N := 5) hx hb hG in_F t_F t_F_ok n_F hown hK hP hD hS 0 rfl rfl 3 (by decide) (hG _ g_38) (fun _ h9 => h9) rfl (by decide +kernel) rfl rfl (Nat.le_of_ble_eq_true rfl) d_F_goOnFrom_7 (fun H locs hP hD hS => ?_)
  have hP : va_P D classes ((af, .inr (2, [.ref ar, .int (iI (bg)), .int (iI (at9)), .int (iI (rd)), .int (iI (wy))])) :: (ar, .inl (k 0, ai 65 r)) :: wr) H := hP
  have hD : va_D (fun q : Nat => s0.heap.size ≤ q) ((af, .inr (2, [.ref ar, .int (iI (bg)), .int (iI (at9)), .int (iI (rd)), .int (iI (wy))])) :: (ar, .inl (k 0, ai 65 r)) :: wr) := hD
  refine lv_aload_n hx hb d_F_goOnFrom_10 rfl (lv_at hl 0 rfl) ?_
  refine lv_dup hx hb d_F_goOnFrom_11 rfl ?_
  refine va_get (D := D) (ci := 2) (v := .int (iI (wy))) (C := R_F) (T := F_F) (N := 5) hx hb hG in_F hown hK hP 0 rfl rfl 4 (by decide) (hG _ g_40) (fun _ h9 => h9) rfl d_F_goOnFrom_12 ?_
  refine ri_iconst hx hb d_F_goOnFrom_15 ?_
  refine ri_iadd hx hb d_F_goOnFrom_16 ?_
  refine va_put (D := D) (ci := 2) (v := .int (iI (wy + 1))) (ty := .int) (C := R_F) (T := F_F) (N := 5) hx hb hG in_F t_F t_F_ok n_F hown hK hP hD hS 0 rfl rfl 4 (by decide) (hG _ g_40) (fun _ h9 => h9) rfl (by decide +kernel) rfl rfl (Nat.le_of_ble_eq_true rfl) d_F_goOnFrom_17 (fun H locs hP hD hS => ?_)
  have hP : va_P D classes ((af, .inr (2, [.ref ar, .int (iI (bg)), .int (iI (at9)), .int (iI (rd)), .int (iI (wy + 1))])) :: (ar, .inl (k 0, ai 65 r)) :: wr) H := hP
  have hD : va_D (fun q : Nat => s0.heap.size ≤ q) ((af, .inr (2, [.ref ar, .int (iI (bg)), .int (iI (at9)), .int (iI (rd)), .int (iI (wy + 1))])) :: (ar, .inl (k 0, ai 65 r)) :: wr) := hD
  exact re_v hx hb hr hlocks (fun t ht hW => ⟨_, ⟨rfl, rfl⟩, wd_next h0 hS hP hD t ht hW⟩) hS.2.2 (Nat.le_of_ble_eq_true rfl) (Nat.le_of_ble_eq_true rfl) d_F_goOnFrom_20

theorem mul_rg {a b A B : Int} (ha : 0 ≤ a ∧ a ≤ A) (hb : -B ≤ b ∧ b ≤ B) : -(A * B) ≤ a * b ∧ a * b ≤ A * B := by
  have h1 : a * b ≤ a * B := Int.mul_le_mul_of_nonneg_left hb.2 ha.1
  have h2 : a * (-B) ≤ a * b := Int.mul_le_mul_of_nonneg_left hb.1 ha.1
  have h3 : a * B ≤ A * B := Int.mul_le_mul_of_nonneg_right ha.2 (by omega)
  rw [Int.mul_neg] at h2
  omega
set_option maxHeartbeats 4000000 in
set_option maxRecDepth 100000 in
theorem c_F_addLine {l : Launch} {s0 : State} {D : va_G} {k : Nat → ClassId} (hC : Cx l s0 D k) (af ar : Nat) (bg la lr wy : Int) (r : Int → Int) (wr : va_W) (at9 rd : Int) (hla : 0 ≤ la ∧ la < at9 ∧ at9 ≤ 64) (hlr : 0 ≤ lr ∧ lr ≤ 500) (hrd : 0 ≤ rd ∧ rd ≤ 500) : WdM l s0 D y_F_addLine { frames := 1, cells := 0, slots := 0, locals := 22 } [.ref af, .int (iI (at9)), .int (iI (rd))] ((af, .inr (2, [.ref ar, .int (iI (bg)), .int (iI (la)), .int (iI (lr)), .int (iI (wy))])) :: (ar, .inl (k 0, ai 65 r)) :: wr) (fun v ws' => v = none ∧ ws' = ((af, .inr (2, [.ref ar, .int (iI (bg)), .int (iI (at9)), .int (iI (rd)), .int (iI (wy + 1))])) :: (ar, .inl (k 0, ai 65 (seqF r (fun x => lr + ((x - la) * (rd - lr)) / (at9 - la)) (la + 1) (at9 - la).toNat))) :: wr)) (fun E ws' => False) 0 0 := by
  refine ex_ofW (cc := b_F_addLine) (maxL := 5) (ret := none) (hh := []) (by decide +kernel) (Or.inl ⟨g_220, rfl⟩) ?_
  intro p9 e9 s m9 args9 below9 meth9 c9 s9 B9 hml htab hv
  obtain ⟨rfl, h0, hP, hD⟩ := hv
  have hx := B9.exec
  have hb := B9.bytes
  have hr := B9.returns
  have hG := atoms_spec (ws := GW) B9.pre
  have hown : s.vm.findClass "LathePieces$Profile" = some m9.cls := findClass_of_methodNamed B9.named
  have hlocks := B9.notSynchronized
  have hK := cx_K hC h0
  have hS : va_S (aL s0) s.heap s.heap [] := va_S.rf
  have hA : ∀ q : Nat, s.heap.size ≤ q → aL s0 q := fun q h => Nat.le_trans h0.2.1 h
  have hl := lv_entry ([.ref af, .int (iI (at9)), .int (iI (rd))]) (n := 5) (Nat.le_of_ble_eq_true rfl)
  rw [lg_entry_eq]
  generalize (lg_sl ([.ref af, .int (iI (at9)), .int (iI (rd))]) ++ List.replicate (5 - (lg_sl ([.ref af, .int (iI (at9)), .int (iI (rd))])).length) Slot.unset).toArray = ls at hl ⊢
  replace hl : lv_has ls 5 [(0, .ref af), (1, .int (iI (at9))), (2, .int (iI (rd)))] := hl
  refine lv_iload_n hx hb d_F_addLine_0 rfl (lv_at hl 2 rfl) ?_
  refine lv_aload_n hx hb d_F_addLine_1 rfl (lv_at hl 0 rfl) ?_
  refine va_get (D := D) (ci := 2) (v := .int (iI (lr))) (C := R_F) (T := F_F) (N := 5) hx hb hG in_F hown hK hP 0 rfl rfl 3 (by decide) (hG _ g_38) (fun _ h9 => h9) rfl d_F_addLine_2 ?_
  refine ri_isub hx hb d_F_addLine_5 ?_
  refine lv_istore_n (lv' := [(3, .int (iI (rd - lr))), (0, .ref af), (1, .int (iI (at9))), (2, .int (iI (rd)))]) hx hb d_F_addLine_6 rfl hl (by decide) rfl (fun ls hl => ?_)
  refine lv_aload_n hx hb d_F_addLine_7 rfl (lv_at hl 1 rfl) ?_
  refine va_get (D := D) (ci := 2) (v := .int (iI (la))) (C := R_F) (T := F_F) (N := 5) hx hb hG in_F hown hK hP 0 rfl rfl 2 (by decide) (hG _ g_36) (fun _ h9 => h9) rfl d_F_addLine_8 ?_
  refine ri_iconst hx hb d_F_addLine_11 ?_
  refine ri_iadd hx hb d_F_addLine_12 ?_
  refine lv_istore (lv' := [(4, .int (iI (la + 1))), (3, .int (iI (rd - lr))), (0, .ref af), (1, .int (iI (at9))), (2, .int (iI (rd)))]) hx hb d_F_addLine_13 hl (by decide) rfl (fun ls hl => ?_)
  have loop : ∀ (Q9 : State → Prop) (κ ν : Nat) (H : Heap) (locs : List Loc) (ls : Array Slot), (ν : Int) + κ = at9 - la → va_P D classes ((af, .inr (2, [.ref ar, .int (iI (bg)), .int (iI (la)), .int (iI (lr)), .int (iI (wy))])) :: (ar, .inl (k 0, ai 65 (seqF r (fun x => lr + ((x - la) * (rd - lr)) / (at9 - la)) (la + 1) (ν)))) :: wr) H → va_D (aL s0) ((af, .inr (2, [.ref ar, .int (iI (bg)), .int (iI (la)), .int (iI (lr)), .int (iI (wy))])) :: (ar, .inl (k 0, ai 65 (seqF r (fun x => lr + ((x - la) * (rd - lr)) / (at9 - la)) (la + 1) (ν)))) :: wr) → va_S (aL s0) s.heap H locs → lv_has ls 5 [(0, .ref af), (1, .int (iI (at9))), (2, .int (iI (rd))), (3, .int (iI (rd - lr))), (4, .int (iI (la + 1 + (ν : Int))))] → (∀ (H : Heap) (locs : List Loc) (ls : Array Slot), va_P D classes ((af, .inr (2, [.ref ar, .int (iI (bg)), .int (iI (la)), .int (iI (lr)), .int (iI (wy))])) :: (ar, .inl (k 0, ai 65 (seqF r (fun x => lr + ((x - la) * (rd - lr)) / (at9 - la)) (la + 1) ((at9 - la).toNat)))) :: wr) H → va_D (aL s0) ((af, .inr (2, [.ref ar, .int (iI (bg)), .int (iI (la)), .int (iI (lr)), .int (iI (wy))])) :: (ar, .inl (k 0, ai 65 (seqF r (fun x => lr + ((x - la) * (rd - lr)) / (at9 - la)) (la + 1) ((at9 - la).toNat)))) :: wr) → va_S (aL s0) s.heap H locs → lv_has ls 5 [(0, .ref af), (1, .int (iI (at9))), (2, .int (iI (rd)))] → W p9 l e9 (headSpec GW { frames := 1, cells := 0, slots := 0, locals := 22 }).room s m9 ([.ref af, .int (iI (at9)), .int (iI (rd))] : List Value).toArray below9 meth9 c9 H locs 0 0 Q9 (F0 m9 64 ls [])) → W p9 l e9 (headSpec GW { frames := 1, cells := 0, slots := 0, locals := 22 }).room s m9 ([.ref af, .int (iI (at9)), .int (iI (rd))] : List Value).toArray below9 meth9 c9 H locs 0 0 Q9 (F0 m9 15 ls []) := by
    intro Q9 κ
    induction κ with
    | zero =>
      intro ν H locs ls hinv hP hD hS hl kex
      refine lv_iload hx hb d_F_addLine_15 (lv_at hl 4 rfl) ?_
      refine lv_iload_n hx hb d_F_addLine_17 rfl (lv_at hl 1 rfl) ?_
      refine ri_icmp_gt (tgt := 64) hx hb d_F_addLine_18 (by decide) (by omega) (by omega) (fun c18 => ?_) (fun c18 => ?_)
      · have hN9 : ν = (at9 - la).toNat := by omega
        subst hN9
        exact kex H locs ls hP hD hS (lv_sub hl [0, 1, 2] rfl)
      · exact absurd c18 (by omega)
    | succ κ ih =>
      intro ν H locs ls hinv hP hD hS hl kex
      refine lv_iload hx hb d_F_addLine_15 (lv_at hl 4 rfl) ?_
      refine lv_iload_n hx hb d_F_addLine_17 rfl (lv_at hl 1 rfl) ?_
      refine ri_icmp_gt (tgt := 64) hx hb d_F_addLine_18 (by decide) (by omega) (by omega) (fun c18 => ?_) (fun c18 => ?_)
      · exact absurd c18 (by omega)
      · refine lv_iload hx hb d_F_addLine_21 (lv_at hl 4 rfl) ?_
        refine ri_bipush hx hb d_F_addLine_23 (by decide) ?_
        refine ri_icmp_gt (tgt := 64) hx hb d_F_addLine_25 (by decide) (by omega) (by omega) (fun c25 => ?_) (fun c25 => ?_)
        · exact absurd c25 (by omega)
        · have q1 : -(64 * 500) ≤ (la + 1 + ν - la) * (rd - lr) ∧ (la + 1 + ν - la) * (rd - lr) ≤ 64 * 500 := mul_rg (by omega) (by omega)
          refine lv_aload_n hx hb d_F_addLine_28 rfl (lv_at hl 0 rfl) ?_
          refine va_get (D := D) (ci := 2) (v := .ref ar) (C := R_F) (T := F_F) (N := 5) hx hb hG in_F hown hK hP 0 rfl rfl 0 (by decide) (hG _ g_32) (fun _ h9 => h9) rfl d_F_addLine_29 ?_
          refine lv_iload hx hb d_F_addLine_32 (lv_at hl 4 rfl) ?_
          refine lv_aload_n hx hb d_F_addLine_34 rfl (lv_at hl 0 rfl) ?_
          refine va_get (D := D) (ci := 2) (v := .int (iI (lr))) (C := R_F) (T := F_F) (N := 5) hx hb hG in_F hown hK hP 0 rfl rfl 3 (by decide) (hG _ g_38) (fun _ h9 => h9) rfl d_F_addLine_35 ?_
          refine lv_iload hx hb d_F_addLine_38 (lv_at hl 4 rfl) ?_
          refine lv_aload_n hx hb d_F_addLine_40 rfl (lv_at hl 0 rfl) ?_
          refine va_get (D := D) (ci := 2) (v := .int (iI (la))) (C := R_F) (T := F_F) (N := 5) hx hb hG in_F hown hK hP 0 rfl rfl 2 (by decide) (hG _ g_36) (fun _ h9 => h9) rfl d_F_addLine_41 ?_
          refine ri_isub hx hb d_F_addLine_44 ?_
          refine lv_iload_n hx hb d_F_addLine_45 rfl (lv_at hl 3 rfl) ?_
          refine ri_imul hx hb d_F_addLine_46 ?_
          refine lv_iload_n hx hb d_F_addLine_47 rfl (lv_at hl 1 rfl) ?_
          refine lv_aload_n hx hb d_F_addLine_48 rfl (lv_at hl 0 rfl) ?_
          refine va_get (D := D) (ci := 2) (v := .int (iI (la))) (C := R_F) (T := F_F) (N := 5) hx hb hG in_F hown hK hP 0 rfl rfl 2 (by decide) (hG _ g_36) (fun _ h9 => h9) rfl d_F_addLine_49 ?_
          refine ri_isub hx hb d_F_addLine_52 ?_
          refine rd_call (ex_runS (As := [.int (iI (((la + 1 + (ν : Int)) - la) * (rd - lr))), .int (iI (at9 - la))]) (rest := [.int (iI (lr)), .int (iI (la + 1 + (ν : Int))), .ref ar]) ⟨hx, hb, hml, hown, hG⟩ (c_J_floorDiv l ((la + 1 + ν - la) * (rd - lr)) (at9 - la) (by omega) (by omega) (by omega)) (cb_code (n := 2) hG g_223 g_9 g_221 rfl rfl (by decide +kernel) ⟨Nat.le_of_ble_eq_true rfl, Nat.le_of_ble_eq_true rfl⟩) (hG _ g_222) ⟨fun _ _ _ _ q => q, fun _ _ _ => rfl⟩ rfl rfl hl.1 rfl (lv_room (Nat.le_of_ble_eq_true rfl)) d_F_addLine_53 ⟨Nat.le_of_ble_eq_true rfl, Nat.le_of_ble_eq_true rfl⟩) (fun v9 h9 => ?_)
          obtain rfl := h9
          show W _ _ _ _ _ _ _ _ _ _ _ _ _ _ _ (F0 m9 56 ls [.int (iI (((la + 1 + ν - la) * (rd - lr)) / (at9 - la))), .int (iI (lr)), .int (iI (la + 1 + (ν : Int))), .ref ar])
          refine ri_iadd hx hb d_F_addLine_56 ?_
          refine ra_iast (v := lr + (((la + 1 + ν - la) * (rd - lr)) / (at9 - la))) hx hb hK hP hD hS 1 rfl (by omega) (by omega) d_F_addLine_57 (fun H locs hP hD hS => ?_)
          have hP : va_P D classes ((af, .inr (2, [.ref ar, .int (iI (bg)), .int (iI (la)), .int (iI (lr)), .int (iI (wy))])) :: (ar, .inl (k 0, ai 65 (zU (seqF r (fun x => lr + ((x - la) * (rd - lr)) / (at9 - la)) (la + 1) (ν)) (la + 1 + (ν : Int)) (lr + (((la + 1 + ν - la) * (rd - lr)) / (at9 - la)))))) :: wr) H := hP
          have hD : va_D (fun q : Nat => s0.heap.size ≤ q) ((af, .inr (2, [.ref ar, .int (iI (bg)), .int (iI (la)), .int (iI (lr)), .int (iI (wy))])) :: (ar, .inl (k 0, ai 65 (zU (seqF r (fun x => lr + ((x - la) * (rd - lr)) / (at9 - la)) (la + 1) (ν)) (la + 1 + (ν : Int)) (lr + (((la + 1 + ν - la) * (rd - lr)) / (at9 - la)))))) :: wr) := hD
          rw [show zU (seqF r (fun x => lr + ((x - la) * (rd - lr)) / (at9 - la)) (la + 1) (ν)) (la + 1 + ν) (lr + ((la + 1 + ν - la) * (rd - lr)) / (at9 - la)) = seqF r (fun x => lr + ((x - la) * (rd - lr)) / (at9 - la)) (la + 1) (ν + 1) from seqF_s r (fun x => lr + ((x - la) * (rd - lr)) / (at9 - la)) (la + 1) ν] at hP hD
          refine lv_iinc (v := iI (la + 1 + ((ν + 1 : Nat) : Int))) (lv' := [(4, .int (iI (la + 1 + ((ν + 1 : Nat) : Int)))), (0, .ref af), (1, .int (iI (at9))), (2, .int (iI (rd))), (3, .int (iI (rd - lr)))]) hx hb d_F_addLine_58 hl (k := 4) rfl ((ii_add _ _).trans (congrArg iI (by omega))) (by decide) rfl (fun ls hl => ?_)
          refine lv_goto (tgt := 15) hx hb d_F_addLine_61 (by decide) ?_
          exact ih (ν + 1) H locs ls (by omega) hP hD hS (lv_sub hl [1, 2, 3, 4, 0] rfl) kex
  refine loop _ ((at9 - la).toNat) 0 _ _ _ (by omega) (by rw [seqF_0]; exact hP) (by rw [seqF_0]; exact hD) hS (by rw [show la + 1 + ((0 : Nat) : Int) = la + 1 by omega]; exact lv_sub hl [2, 3, 4, 1, 0] rfl) (fun H locs ls hP hD hS hl => ?_)
  refine lv_aload_n hx hb d_F_addLine_64 rfl (lv_at hl 0 rfl) ?_
  refine lv_iload_n hx hb d_F_addLine_65 rfl (lv_at hl 1 rfl) ?_
  refine lv_iload_n hx hb d_F_addLine_66 rfl (lv_at hl 2 rfl) ?_
  refine wd_call h0 hS htab hlocks (Nat.le_of_ble_eq_true rfl) (Nat.le_of_ble_eq_true rfl) (ex_runV (C := "LathePieces$Profile") (As := [.int (iI (at9)), .int (iI (rd))]) (rest := []) ⟨hx, hb, hml, hown, hG⟩ (c_F_goOnFrom hC af ar bg la lr wy (seqF r (fun x => lr + ((x - la) * (rd - lr)) / (at9 - la)) (la + 1) (at9 - la).toNat) wr at9 rd) (cb_code (n := 2) hG g_227 g_2 g_224 rfl rfl (by decide +kernel) ⟨Nat.le_of_ble_eq_true rfl, Nat.le_of_ble_eq_true rfl⟩) (hG _ g_225) (hG _ g_226) (kd_V (kd_preW h0 hS hP hD) (kd_recv hK hP (q0 := 0) (ci := 2) rfl rfl rfl)) rfl rfl hl.1 rfl (lv_room (Nat.le_of_ble_eq_true rfl)) d_F_addLine_67 ⟨Nat.le_of_ble_eq_true rfl, Nat.le_of_ble_eq_true rfl⟩) (fun E ws9 hE t hwd => hE.elim) (fun v9 ws9 h9 H locs hP hD hS => ?_)
  obtain ⟨rfl, rfl⟩ := h9
  show W _ _ _ _ _ _ _ _ _ _ _ _ _ _ _ (F0 m9 70 ls [])
  exact re_v hx hb hr hlocks (fun t ht hW => ⟨_, ⟨rfl, rfl⟩, wd_next h0 hS hP hD t ht hW⟩) hS.2.2 (Nat.le_of_ble_eq_true rfl) (Nat.le_of_ble_eq_true rfl) d_F_addLine_70

set_option maxHeartbeats 4000000 in
set_option maxRecDepth 100000 in
theorem c_G_addWedge {l : Launch} {s0 : State} {D : va_G} {k : Nat → ClassId} (hC : Cx l s0 D k) (ag a1 a2 : Nat) (cn sm : Int) (ga gb : Int → Int) (wr : va_W) (ab be : Int) (hcn : 0 ≤ cn ∧ cn < 16) (hab : 1 ≤ ab ∧ ab ≤ 3600) (hbe : 1 ≤ be ∧ be ≤ 12) : WdM l s0 D y_G_addWedge { frames := 0, cells := 0, slots := 0, locals := 0 } [.ref ag, .int (iI (ab)), .int (iI (be))] ((ag, .inr (4, [.ref a1, .ref a2, .int (iI (cn)), .long (jJ (sm))])) :: (a1, .inl (k 0, ai 16 ga)) :: (a2, .inl (k 0, ai 16 gb)) :: wr) (fun v ws' => v = none ∧ ws' = ((ag, .inr (4, [.ref a1, .ref a2, .int (iI (cn + 1)), .long (jJ (sm + (ab * (27720 / be))))])) :: (a1, .inl (k 0, ai 16 (zU ga (cn) (ab)))) :: (a2, .inl (k 0, ai 16 (zU gb (cn) (be)))) :: wr)) (fun E ws' => False) 0 0 := by
  refine ex_ofW (cc := b_G_addWedge) (maxL := 3) (ret := none) (hh := []) (by decide +kernel) (Or.inl ⟨g_535, rfl⟩) ?_
  intro p9 e9 s m9 args9 below9 meth9 c9 s9 B9 hml htab hv
  obtain ⟨rfl, h0, hP, hD⟩ := hv
  have hx := B9.exec
  have hb := B9.bytes
  have hr := B9.returns
  have hG := atoms_spec (ws := GW) B9.pre
  have hown : s.vm.findClass "LathePieces$Ring" = some m9.cls := findClass_of_methodNamed B9.named
  have hlocks := B9.notSynchronized
  have hK := cx_K hC h0
  have hS : va_S (aL s0) s.heap s.heap [] := va_S.rf
  have hA : ∀ q : Nat, s.heap.size ≤ q → aL s0 q := fun q h => Nat.le_trans h0.2.1 h
  have hl := lv_entry ([.ref ag, .int (iI (ab)), .int (iI (be))]) (n := 3) (Nat.le_of_ble_eq_true rfl)
  rw [lg_entry_eq]
  generalize (lg_sl ([.ref ag, .int (iI (ab)), .int (iI (be))]) ++ List.replicate (3 - (lg_sl ([.ref ag, .int (iI (ab)), .int (iI (be))])).length) Slot.unset).toArray = ls at hl ⊢
  replace hl : lv_has ls 3 [(0, .ref ag), (1, .int (iI (ab))), (2, .int (iI (be)))] := hl
  refine lv_aload_n hx hb d_G_addWedge_0 rfl (lv_at hl 0 rfl) ?_
  refine va_get (D := D) (ci := 4) (v := .ref a1) (C := R_G) (T := F_G) (N := 4) hx hb hG in_G hown hK hP 0 rfl rfl 0 (by decide) (hG _ g_503) (fun _ h9 => h9) rfl d_G_addWedge_1 ?_
  refine lv_aload_n hx hb d_G_addWedge_4 rfl (lv_at hl 0 rfl) ?_
  refine va_get (D := D) (ci := 4) (v := .int (iI (cn))) (C := R_G) (T := F_G) (N := 4) hx hb hG in_G hown hK hP 0 rfl rfl 2 (by decide) (hG _ g_507) (fun _ h9 => h9) rfl d_G_addWedge_5 ?_
  refine lv_iload_n hx hb d_G_addWedge_8 rfl (lv_at hl 1 rfl) ?_
  refine ra_iast (v := ab) hx hb hK hP hD hS 1 rfl (by omega) (by omega) d_G_addWedge_9 (fun H locs hP hD hS => ?_)
  have hP : va_P D classes ((ag, .inr (4, [.ref a1, .ref a2, .int (iI (cn)), .long (jJ (sm))])) :: (a1, .inl (k 0, ai 16 (zU ga (cn) (ab)))) :: (a2, .inl (k 0, ai 16 gb)) :: wr) H := hP
  have hD : va_D (fun q : Nat => s0.heap.size ≤ q) ((ag, .inr (4, [.ref a1, .ref a2, .int (iI (cn)), .long (jJ (sm))])) :: (a1, .inl (k 0, ai 16 (zU ga (cn) (ab)))) :: (a2, .inl (k 0, ai 16 gb)) :: wr) := hD
  refine lv_aload_n hx hb d_G_addWedge_10 rfl (lv_at hl 0 rfl) ?_
  refine va_get (D := D) (ci := 4) (v := .ref a2) (C := R_G) (T := F_G) (N := 4) hx hb hG in_G hown hK hP 0 rfl rfl 1 (by decide) (hG _ g_505) (fun _ h9 => h9) rfl d_G_addWedge_11 ?_
  refine lv_aload_n hx hb d_G_addWedge_14 rfl (lv_at hl 0 rfl) ?_
  refine va_get (D := D) (ci := 4) (v := .int (iI (cn))) (C := R_G) (T := F_G) (N := 4) hx hb hG in_G hown hK hP 0 rfl rfl 2 (by decide) (hG _ g_507) (fun _ h9 => h9) rfl d_G_addWedge_15 ?_
  refine lv_iload_n hx hb d_G_addWedge_18 rfl (lv_at hl 2 rfl) ?_
  refine ra_iast (v := be) hx hb hK hP hD hS 2 rfl (by omega) (by omega) d_G_addWedge_19 (fun H locs hP hD hS => ?_)
  have hP : va_P D classes ((ag, .inr (4, [.ref a1, .ref a2, .int (iI (cn)), .long (jJ (sm))])) :: (a1, .inl (k 0, ai 16 (zU ga (cn) (ab)))) :: (a2, .inl (k 0, ai 16 (zU gb (cn) (be)))) :: wr) H := hP
  have hD : va_D (fun q : Nat => s0.heap.size ≤ q) ((ag, .inr (4, [.ref a1, .ref a2, .int (iI (cn)), .long (jJ (sm))])) :: (a1, .inl (k 0, ai 16 (zU ga (cn) (ab)))) :: (a2, .inl (k 0, ai 16 (zU gb (cn) (be)))) :: wr) := hD
  refine lv_aload_n hx hb d_G_addWedge_20 rfl (lv_at hl 0 rfl) ?_
  refine lv_dup hx hb d_G_addWedge_21 rfl ?_
  refine va_get (D := D) (ci := 4) (v := .int (iI (cn))) (C := R_G) (T := F_G) (N := 4) hx hb hG in_G hown hK hP 0 rfl rfl 2 (by decide) (hG _ g_507) (fun _ h9 => h9) rfl d_G_addWedge_22 ?_
  refine ri_iconst hx hb d_G_addWedge_25 ?_
  refine ri_iadd hx hb d_G_addWedge_26 ?_
  refine va_put (D := D) (ci := 4) (v := .int (iI (cn + 1))) (ty := .int) (C := R_G) (T := F_G) (N := 4) hx hb hG in_G t_G t_G_ok n_G hown hK hP hD hS 0 rfl rfl 2 (by decide) (hG _ g_507) (fun _ h9 => h9) rfl (by decide +kernel) rfl rfl (Nat.le_of_ble_eq_true rfl) d_G_addWedge_27 (fun H locs hP hD hS => ?_)
  have hP : va_P D classes ((ag, .inr (4, [.ref a1, .ref a2, .int (iI (cn + 1)), .long (jJ (sm))])) :: (a1, .inl (k 0, ai 16 (zU ga (cn) (ab)))) :: (a2, .inl (k 0, ai 16 (zU gb (cn) (be)))) :: wr) H := hP
  have hD : va_D (fun q : Nat => s0.heap.size ≤ q) ((ag, .inr (4, [.ref a1, .ref a2, .int (iI (cn + 1)), .long (jJ (sm))])) :: (a1, .inl (k 0, ai 16 (zU ga (cn) (ab)))) :: (a2, .inl (k 0, ai 16 (zU gb (cn) (be)))) :: wr) := hD
  refine lv_aload_n hx hb d_G_addWedge_30 rfl (lv_at hl 0 rfl) ?_
  refine lv_dup hx hb d_G_addWedge_31 rfl ?_
  refine va_get (D := D) (ci := 4) (v := .long (jJ (sm))) (C := R_G) (T := F_G) (N := 4) hx hb hG in_G hown hK hP 0 rfl rfl 3 (by decide) (hG _ g_509) (fun _ h9 => h9) rfl d_G_addWedge_32 ?_
  refine lv_iload_n hx hb d_G_addWedge_35 rfl (lv_at hl 1 rfl) ?_
  refine ri_i2l hx hb d_G_addWedge_36 (by omega) ?_
  refine ri_sipush hx hb d_G_addWedge_37 (by decide) ?_
  refine lv_iload_n hx hb d_G_addWedge_40 rfl (lv_at hl 2 rfl) ?_
  have q1 : ((27720 : Int).tdiv be) = 27720 / be := Int.tdiv_eq_ediv_of_nonneg (by decide)
  have q2 : 0 ≤ 27720 / be ∧ 27720 / be ≤ 27720 := ⟨Int.ediv_nonneg (by decide) (by omega), Int.ediv_le_self _ (by decide)⟩
  refine ri_idiv hx hb d_G_addWedge_41 (by omega) (by omega) (by omega) ?_
  refine tp_i (congrArg iI (show Int.tdiv (27720) (be) = 27720 / be from q1)) ?_
  refine ri_i2l hx hb d_G_addWedge_42 (by omega) ?_
  refine ri_lmul hx hb d_G_addWedge_43 ?_
  refine ri_ladd hx hb d_G_addWedge_44 ?_
  refine va_put (D := D) (ci := 4) (v := .long (jJ (sm + (ab * (27720 / be))))) (ty := .long) (C := R_G) (T := F_G) (N := 4) hx hb hG in_G t_G t_G_ok n_G hown hK hP hD hS 0 rfl rfl 3 (by decide) (hG _ g_509) (fun _ h9 => h9) rfl (by decide +kernel) rfl rfl (Nat.le_of_ble_eq_true rfl) d_G_addWedge_45 (fun H locs hP hD hS => ?_)
  have hP : va_P D classes ((ag, .inr (4, [.ref a1, .ref a2, .int (iI (cn + 1)), .long (jJ (sm + (ab * (27720 / be))))])) :: (a1, .inl (k 0, ai 16 (zU ga (cn) (ab)))) :: (a2, .inl (k 0, ai 16 (zU gb (cn) (be)))) :: wr) H := hP
  have hD : va_D (fun q : Nat => s0.heap.size ≤ q) ((ag, .inr (4, [.ref a1, .ref a2, .int (iI (cn + 1)), .long (jJ (sm + (ab * (27720 / be))))])) :: (a1, .inl (k 0, ai 16 (zU ga (cn) (ab)))) :: (a2, .inl (k 0, ai 16 (zU gb (cn) (be)))) :: wr) := hD
  exact re_v hx hb hr hlocks (fun t ht hW => ⟨_, ⟨rfl, rfl⟩, wd_next h0 hS hP hD t ht hW⟩) hS.2.2 (Nat.le_of_ble_eq_true rfl) (Nat.le_of_ble_eq_true rfl) d_G_addWedge_48
end
section
/-! Calls of a nest mate's private members. -/
section NestCalls
variable {p : Program} {l : Launch} {e : Env} {R : Room} {s : State} {m : MethodId} {args : Array Value} {below : List Frame} {meth : Method} {c : Code} {H : Heap} {locs : List Loc} {cells slots : Nat} {Q : State → Prop}
variable {cc bytes : ByteArray} {pc nL maxL mc ms n index : Nat} {ls : Array Slot} {As rest st0 : List Value} {own host : String} {y : MethodName} {ret : Option FieldType} {rm : Room} {Ts ws : List Cond} {b : Addr} {Pc : Array Value → State → Prop} {Qr : Option Value → State → State → Prop} {Qx : String → State → State → Prop} {free : Addr → Prop} {g : JFrame}
theorem ex_toMet (h : ex_Met l y ws rm Pc Qr (fun _ _ _ => False) mc ms free) : Met l y ws rm Pc (fun _ st o t => ∃ v, o = .returned v ∧ Qr v st t) mc ms free := by
  intro p e ha hc hk s m args below hf happ hP hK
  obtain ⟨n, o, h1, h2, h3, hq, L, hW, hsm, hL⟩ := h p e ha hc hk s m args below hf happ hP hK
  rcases hq with ⟨v, hv, hq⟩ | ⟨q, E, -, -, hx⟩
  · exact ⟨n, o, h1, h2, h3, ⟨v, hv, hq⟩, L, ⟨⟨v, hv⟩, hW, hsm⟩, hL⟩
  · exact hx.elim
theorem ex_ofRun (hr : va_Run p l e R s m args below meth c H locs cells slots mc ms g rest (fun st o t => ∃ v, o = .returned v ∧ Qr v st t) free) : ex_Run p l e R s m args below meth c H locs cells slots mc ms g rest Qr Qx free := by
  intro T hT X
  obtain ⟨v, st₀, t, T', L, h0, X', hL, e1, e2, ⟨v', hv, hq⟩, st⟩ := hr T hT X
  cases hv
  exact ⟨st₀, t, T', L, h0, X', hL, e1, e2, Or.inl ⟨v, hq, st⟩⟩
theorem cn_mk (hG : ∀ w ∈ GW, w.before args s = true) (hcode : Cond.code y bytes maxL ret ∈ GW) (hini : Cond.initialized y.cls ∈ GW) (hl : (Cond.methodLinkNest own index y host).before args s = true) (hrc : rm.cells = mc) (hrs : rm.slots = ms)
    (hd : y.cls ≠ "java/lang/invoke/MethodHandle" ∧ y.cls ≠ "java/lang/invoke/VarHandle" ∧ (parseMethodDescriptor y.desc).map (fun d => d.parameters.length) = some n) (hR : rm.frames + 1 ≤ R.frames ∧ 8 + (maxL + 11) + rm.locals ≤ R.locals) : va_CN R s args own index y host bytes maxL ret GW rm mc ms n := by
  refine ⟨⟨hrc, hrs, hR.1, hR.2, gw_pay hG, hcode⟩, hG _ hcode, hG _ hini, ⟨hd.1, hd.2.1⟩, fun sig h => ?_, hl⟩
  have h2 := hd.2.2
  rw [h] at h2
  exact (Option.some.inj h2).symm
theorem ex_runSN (S : CallFix p m c cc nL s args Ts own) (hM : ex_Met l y GW rm Pc Qr (fun _ _ _ => False) mc ms free) (cw : va_CN R s args own index y host bytes maxL ret GW rm mc ms n) (hst : (Cond.static y).before args s = true) (hp : PreS s H Pc As)
    (hg : g.method = m) (hn : As.length = n) (hsize : g.locals.size = nL) (hstack : g.stack = As.reverse ++ rest) (hW : 2 * g.monitorRoom + (rest.map fun v => v.category).sum ≤ 8) (hdg : decode cc g.pc = .ok (.invokestatic index, 3)) (hf : cells + mc ≤ R.cells ∧ slots + ms ≤ R.slots) :
    ex_Run p l e R s m args below meth c H locs cells slots mc ms g rest Qr Qx free :=
  ex_ofRun (va_runSN S (ex_toMet hM) ⟨cw, hst, trivial⟩ hp hg hn hsize hstack hW hdg hf)
theorem ex_runIN (S : CallFix p m c cc nL s args Ts own) (hM : ex_Met l y GW rm Pc Qr (fun _ _ _ => False) mc ms free) (cw : va_CN R s args own index y host bytes maxL none GW rm mc ms n) (hy1 : y.name = "<init>") (hin : (Cond.instanceMethod y).before args s = true) (hp : PreS s H Pc (.ref b :: As))
    (hg : g.method = m) (hn : As.length = n) (hsize : g.locals.size = nL) (hstack : g.stack = As.reverse ++ .ref b :: rest) (hW : 2 * g.monitorRoom + (rest.map fun v => v.category).sum ≤ 8) (hdg : decode cc g.pc = .ok (.invokespecial index, 3)) (hf : cells + mc ≤ R.cells ∧ slots + ms ≤ R.slots) :
    ex_Run p l e R s m args below meth c H locs cells slots mc ms g rest Qr Qx free :=
  ex_ofRun (va_runIN S (ex_toMet hM) ⟨cw, hy1, hin⟩ hp hg hn hsize hstack hW hdg hf)
theorem cx_nest {s0 U : State} {D : va_G} {k : Nat → ClassId} (hC : Cx l s0 D k) (h : La s0 U) {x : MethodName} (hm : Cond.methodLinkNest own index x host ∈ lw_tbl) (a : Array Value) : (Cond.methodLinkNest own index x host).before a U = true := by
  obtain ⟨-, ⟨a0, h1, -⟩, -⟩ := hC
  exact va_Nw.use rfl (va_Nw.warmM h.1 (va_Nw.of rfl (h1 _ hm)))
/-- a writer that never throws, its throwing end left out -/
theorem wd_sure {s0 : State} {D : va_G} {wl : va_W} {post : Option Value → va_W → Prop} (h : WdM l s0 D y rm As wl post (fun _ _ => False) mc ms) : ex_Met l y GW rm (fun a U => a = As.toArray ∧ Wd s0 D wl U) (fun v _ t => ∃ ws', post v ws' ∧ Wd s0 D ws' t) (fun _ _ _ => False) mc ms (aL s0) := by
  intro p e ha hc hk s m args below hf happ hP hK
  obtain ⟨n, o, h1, h2, h3, hq, hL⟩ := h p e ha hc hk s m args below hf happ hP hK
  refine ⟨n, o, h1, h2, h3, ?_, hL⟩
  rcases hq with hq | ⟨q, E, -, -, ws', hx, -⟩
  · exact Or.inl hq
  · exact hx.elim
end NestCalls
end
section
set_option maxHeartbeats 4000000 in
set_option maxRecDepth 100000 in
theorem c_F_init {l : Launch} {s0 : State} {D : va_G} {k : Nat → ClassId} (hC : Cx l s0 D k) (af : Nat) (wr : va_W) : WdM l s0 D y_F_init { frames := 1, cells := 1, slots := 65, locals := 20 } [.ref af] ((af, .inr (2, [.null, .int (iI (0)), .int (iI (0)), .int (iI (0)), .int (iI (0))])) :: wr) (fun v ws' => ∃ ar : Nat, v = none ∧ ws' = ((ar, .inl (k 0, ai 65 (fun _ => 0))) :: (af, .inr (2, [.ref ar, .int (iI (0)), .int (iI (0)), .int (iI (0)), .int (iI (0))])) :: wr)) (fun E ws' => False) 1 65 := by
  refine ex_ofW (cc := b_F_init) (maxL := 1) (ret := none) (hh := []) (by decide +kernel) (Or.inl ⟨g_29, rfl⟩) ?_
  intro p9 e9 s m9 args9 below9 meth9 c9 s9 B9 hml htab hv
  obtain ⟨rfl, h0, hP, hD⟩ := hv
  have hx := B9.exec
  have hb := B9.bytes
  have hr := B9.returns
  have hG := atoms_spec (ws := GW) B9.pre
  have hown : s.vm.findClass "LathePieces$Profile" = some m9.cls := findClass_of_methodNamed B9.named
  have hlocks := B9.notSynchronized
  have hin9 : meth9.name = "<init>" := (name_of_methodNamed B9.named B9.method).1
  have hK := cx_K hC h0
  have hS : va_S (aL s0) s.heap s.heap [] := va_S.rf
  have hA : ∀ q : Nat, s.heap.size ≤ q → aL s0 q := fun q h => Nat.le_trans h0.2.1 h
  have hl := lv_entry ([.ref af]) (n := 1) (Nat.le_of_ble_eq_true rfl)
  rw [lg_entry_eq]
  generalize (lg_sl ([.ref af]) ++ List.replicate (1 - (lg_sl ([.ref af])).length) Slot.unset).toArray = ls at hl ⊢
  replace hl : lv_has ls 1 [(0, .ref af)] := hl
  refine lv_aload_n hx hb d_F_init_0 rfl (lv_at hl 0 rfl) ?_
  refine W.objInit hx hb hown (hG _ g_30) (hG _ g_23) (hG _ g_24) rfl (by rw [hml]; exact hl.1) rfl d_F_init_1 (Nat.le_of_ble_eq_true rfl) (Nat.le_of_ble_eq_true rfl) ?_
  refine W.eq (g2 := F0 m9 4 ls []) rfl ?_
  refine lv_aload_n hx hb d_F_init_4 rfl (lv_at hl 0 rfl) ?_
  refine ri_bipush hx hb d_F_init_5 (by decide) ?_
  refine ra_newi (N := 65) hx hb hG g_53 hK hP hD hS hA rfl (by omega) (Nat.le_of_ble_eq_true rfl) (Nat.le_of_ble_eq_true rfl) d_F_init_7 (fun q1 H hP hD hS => ?_)
  refine va_putF (D := D) (ci := 2) (v := .ref q1) (ty := .array .int) (C := R_F) (T := F_F) (N := 5) hx hb hG in_F t_F t_F_ok n_F hown hK hP hD hS 1 rfl rfl 0 (by decide) (hG _ g_32) (fun _ h9 => h9) rfl hin9 rfl (by decide +kernel) rfl rfl (Nat.le_of_ble_eq_true rfl) d_F_init_9 (fun H locs hP hD hS => ?_)
  have hP : va_P D classes ((q1, .inl (k 0, ai 65 (fun _ => 0))) :: (af, .inr (2, [.ref q1, .int (iI (0)), .int (iI (0)), .int (iI (0)), .int (iI (0))])) :: wr) H := hP
  have hD : va_D (fun q : Nat => s0.heap.size ≤ q) ((q1, .inl (k 0, ai 65 (fun _ => 0))) :: (af, .inr (2, [.ref q1, .int (iI (0)), .int (iI (0)), .int (iI (0)), .int (iI (0))])) :: wr) := hD
  exact re_v hx hb hr hlocks (fun t ht hW => ⟨_, ⟨q1, rfl, rfl⟩, wd_next h0 hS hP hD t ht hW⟩) hS.2.2 (Nat.le_of_ble_eq_true rfl) (Nat.le_of_ble_eq_true rfl) d_F_init_12

set_option maxHeartbeats 4000000 in
set_option maxRecDepth 100000 in
theorem c_G_init {l : Launch} {s0 : State} {D : va_G} {k : Nat → ClassId} (hC : Cx l s0 D k) (ag : Nat) (wr : va_W) : WdM l s0 D y_G_init { frames := 1, cells := 2, slots := 32, locals := 20 } [.ref ag] ((ag, .inr (4, [.null, .null, .int (iI (0)), .long (jJ (0))])) :: wr) (fun v ws' => ∃ a1 a2 : Nat, v = none ∧ ws' = ((a2, .inl (k 0, ai 16 (fun _ => 0))) :: (a1, .inl (k 0, ai 16 (fun _ => 0))) :: (ag, .inr (4, [.ref a1, .ref a2, .int (iI (0)), .long (jJ (0))])) :: wr)) (fun E ws' => False) 2 32 := by
  refine ex_ofW (cc := b_G_init) (maxL := 1) (ret := none) (hh := []) (by decide +kernel) (Or.inl ⟨g_501, rfl⟩) ?_
  intro p9 e9 s m9 args9 below9 meth9 c9 s9 B9 hml htab hv
  obtain ⟨rfl, h0, hP, hD⟩ := hv
  have hx := B9.exec
  have hb := B9.bytes
  have hr := B9.returns
  have hG := atoms_spec (ws := GW) B9.pre
  have hown : s.vm.findClass "LathePieces$Ring" = some m9.cls := findClass_of_methodNamed B9.named
  have hlocks := B9.notSynchronized
  have hin9 : meth9.name = "<init>" := (name_of_methodNamed B9.named B9.method).1
  have hK := cx_K hC h0
  have hS : va_S (aL s0) s.heap s.heap [] := va_S.rf
  have hA : ∀ q : Nat, s.heap.size ≤ q → aL s0 q := fun q h => Nat.le_trans h0.2.1 h
  have hl := lv_entry ([.ref ag]) (n := 1) (Nat.le_of_ble_eq_true rfl)
  rw [lg_entry_eq]
  generalize (lg_sl ([.ref ag]) ++ List.replicate (1 - (lg_sl ([.ref ag])).length) Slot.unset).toArray = ls at hl ⊢
  replace hl : lv_has ls 1 [(0, .ref ag)] := hl
  refine lv_aload_n hx hb d_G_init_0 rfl (lv_at hl 0 rfl) ?_
  refine W.objInit hx hb hown (hG _ g_502) (hG _ g_23) (hG _ g_24) rfl (by rw [hml]; exact hl.1) rfl d_G_init_1 (Nat.le_of_ble_eq_true rfl) (Nat.le_of_ble_eq_true rfl) ?_
  refine W.eq (g2 := F0 m9 4 ls []) rfl ?_
  refine lv_aload_n hx hb d_G_init_4 rfl (lv_at hl 0 rfl) ?_
  refine ri_bipush hx hb d_G_init_5 (by decide) ?_
  refine ra_newi (N := 16) hx hb hG g_53 hK hP hD hS hA rfl (by omega) (Nat.le_of_ble_eq_true rfl) (Nat.le_of_ble_eq_true rfl) d_G_init_7 (fun q1 H hP hD hS => ?_)
  refine va_putF (D := D) (ci := 4) (v := .ref q1) (ty := .array .int) (C := R_G) (T := F_G) (N := 4) hx hb hG in_G t_G t_G_ok n_G hown hK hP hD hS 1 rfl rfl 0 (by decide) (hG _ g_503) (fun _ h9 => h9) rfl hin9 rfl (by decide +kernel) rfl rfl (Nat.le_of_ble_eq_true rfl) d_G_init_9 (fun H locs hP hD hS => ?_)
  have hP : va_P D classes ((q1, .inl (k 0, ai 16 (fun _ => 0))) :: (ag, .inr (4, [.ref q1, .null, .int (iI (0)), .long (jJ (0))])) :: wr) H := hP
  have hD : va_D (fun q : Nat => s0.heap.size ≤ q) ((q1, .inl (k 0, ai 16 (fun _ => 0))) :: (ag, .inr (4, [.ref q1, .null, .int (iI (0)), .long (jJ (0))])) :: wr) := hD
  refine lv_aload_n hx hb d_G_init_12 rfl (lv_at hl 0 rfl) ?_
  refine ri_bipush hx hb d_G_init_13 (by decide) ?_
  refine ra_newi (N := 16) hx hb hG g_53 hK hP hD hS hA rfl (by omega) (Nat.le_of_ble_eq_true rfl) (Nat.le_of_ble_eq_true rfl) d_G_init_15 (fun q2 H hP hD hS => ?_)
  refine va_putF (D := D) (ci := 4) (v := .ref q2) (ty := .array .int) (C := R_G) (T := F_G) (N := 4) hx hb hG in_G t_G t_G_ok n_G hown hK hP hD hS 2 rfl rfl 1 (by decide) (hG _ g_505) (fun _ h9 => h9) rfl hin9 rfl (by decide +kernel) rfl rfl (Nat.le_of_ble_eq_true rfl) d_G_init_17 (fun H locs hP hD hS => ?_)
  have hP : va_P D classes ((q2, .inl (k 0, ai 16 (fun _ => 0))) :: (q1, .inl (k 0, ai 16 (fun _ => 0))) :: (ag, .inr (4, [.ref q1, .ref q2, .int (iI (0)), .long (jJ (0))])) :: wr) H := hP
  have hD : va_D (fun q : Nat => s0.heap.size ≤ q) ((q2, .inl (k 0, ai 16 (fun _ => 0))) :: (q1, .inl (k 0, ai 16 (fun _ => 0))) :: (ag, .inr (4, [.ref q1, .ref q2, .int (iI (0)), .long (jJ (0))])) :: wr) := hD
  exact re_v hx hb hr hlocks (fun t ht hW => ⟨_, ⟨q1, q2, rfl, rfl⟩, wd_next h0 hS hP hD t ht hW⟩) hS.2.2 (Nat.le_of_ble_eq_true rfl) (Nat.le_of_ble_eq_true rfl) d_G_init_20

set_option maxHeartbeats 4000000 in
set_option maxRecDepth 100000 in
theorem c_N_init {l : Launch} {s0 : State} {D : va_G} {k : Nat → ClassId} (hC : Cx l s0 D k) (an n9 : Nat) (wr : va_W) (hn9 : n9 ≤ 12) : WdM l s0 D y_N_init { frames := 1, cells := 1, slots := 13, locals := 23 } [.ref an, .int (iI ((n9 : Int)))] ((an, .inr (0, [.null])) :: wr) (fun v ws' => ∃ ah : Nat, v = none ∧ ws' = ((ah, .inl (k 0, ai (n9 + 1) (seqF (fun _ => 0) (fun d => isq ((n9 : Int) * n9 - d * d)) 0 (n9 + 1)))) :: (an, .inr (0, [.ref ah])) :: wr)) (fun E ws' => False) 1 13 := by
  refine ex_ofW (cc := b_N_init) (maxL := 3) (ret := none) (hh := []) (by decide +kernel) (Or.inl ⟨g_352, rfl⟩) ?_
  intro p9 e9 s m9 args9 below9 meth9 c9 s9 B9 hml htab hv
  obtain ⟨rfl, h0, hP, hD⟩ := hv
  have hx := B9.exec
  have hb := B9.bytes
  have hr := B9.returns
  have hG := atoms_spec (ws := GW) B9.pre
  have hown : s.vm.findClass "LathePieces$Nose" = some m9.cls := findClass_of_methodNamed B9.named
  have hlocks := B9.notSynchronized
  have hin9 : meth9.name = "<init>" := (name_of_methodNamed B9.named B9.method).1
  have hK := cx_K hC h0
  have hS : va_S (aL s0) s.heap s.heap [] := va_S.rf
  have hA : ∀ q : Nat, s.heap.size ≤ q → aL s0 q := fun q h => Nat.le_trans h0.2.1 h
  have hl := lv_entry ([.ref an, .int (iI ((n9 : Int)))]) (n := 3) (Nat.le_of_ble_eq_true rfl)
  rw [lg_entry_eq]
  generalize (lg_sl ([.ref an, .int (iI ((n9 : Int)))]) ++ List.replicate (3 - (lg_sl ([.ref an, .int (iI ((n9 : Int)))])).length) Slot.unset).toArray = ls at hl ⊢
  replace hl : lv_has ls 3 [(0, .ref an), (1, .int (iI ((n9 : Int))))] := hl
  refine lv_aload_n hx hb d_N_init_0 rfl (lv_at hl 0 rfl) ?_
  refine W.objInit hx hb hown (hG _ g_353) (hG _ g_23) (hG _ g_24) rfl (by rw [hml]; exact hl.1) rfl d_N_init_1 (Nat.le_of_ble_eq_true rfl) (Nat.le_of_ble_eq_true rfl) ?_
  refine W.eq (g2 := F0 m9 4 ls []) rfl ?_
  refine lv_aload_n hx hb d_N_init_4 rfl (lv_at hl 0 rfl) ?_
  refine lv_iload_n hx hb d_N_init_5 rfl (lv_at hl 1 rfl) ?_
  refine ri_iconst hx hb d_N_init_6 ?_
  refine ri_iadd hx hb d_N_init_7 ?_
  refine ra_newi (N := n9 + 1) hx hb hG g_53 hK hP hD hS hA (by omega) (by omega) (Nat.le_of_ble_eq_true rfl) (by show 0 + (n9 + 1) ≤ 13; omega) d_N_init_8 (fun q1 H hP hD hS => ?_)
  refine W.widen (k := 1) (n := 13) (Nat.le_of_ble_eq_true rfl) (by omega) ?_
  refine va_putF (D := D) (ci := 0) (v := .ref q1) (ty := .array .int) (C := R_N) (T := F_N) (N := 1) hx hb hG in_N t_N t_N_ok n_N hown hK hP hD hS 1 rfl rfl 0 (by decide) (hG _ g_355) (fun _ h9 => h9) rfl hin9 rfl (by decide +kernel) rfl rfl (Nat.le_of_ble_eq_true rfl) d_N_init_10 (fun H locs hP hD hS => ?_)
  have hP : va_P D classes ((q1, .inl (k 0, ai (n9 + 1) (fun _ => 0))) :: (an, .inr (0, [.ref q1])) :: wr) H := hP
  have hD : va_D (fun q : Nat => s0.heap.size ≤ q) ((q1, .inl (k 0, ai (n9 + 1) (fun _ => 0))) :: (an, .inr (0, [.ref q1])) :: wr) := hD
  refine ri_iconst hx hb d_N_init_13 ?_
  refine lv_istore_n (lv' := [(2, .int (iI (0))), (0, .ref an), (1, .int (iI ((n9 : Int))))]) hx hb d_N_init_14 rfl hl (by decide) rfl (fun ls hl => ?_)
  have loop : ∀ (Q9 : State → Prop) (κ ν : Nat) (H : Heap) (locs : List Loc) (ls : Array Slot), ν + κ = n9 + 1 → va_P D classes ((q1, .inl (k 0, ai (n9 + 1) (seqF (fun _ => 0) (fun d => isq ((n9 : Int) * n9 - d * d)) 0 (ν)))) :: (an, .inr (0, [.ref q1])) :: wr) H → va_D (aL s0) ((q1, .inl (k 0, ai (n9 + 1) (seqF (fun _ => 0) (fun d => isq ((n9 : Int) * n9 - d * d)) 0 (ν)))) :: (an, .inr (0, [.ref q1])) :: wr) → va_S (aL s0) s.heap H locs → lv_has ls 3 [(0, .ref an), (1, .int (iI ((n9 : Int)))), (2, .int (iI (0 + (ν : Int))))] → (∀ (H : Heap) (locs : List Loc) (ls : Array Slot), va_P D classes ((q1, .inl (k 0, ai (n9 + 1) (seqF (fun _ => 0) (fun d => isq ((n9 : Int) * n9 - d * d)) 0 (n9 + 1)))) :: (an, .inr (0, [.ref q1])) :: wr) H → va_D (aL s0) ((q1, .inl (k 0, ai (n9 + 1) (seqF (fun _ => 0) (fun d => isq ((n9 : Int) * n9 - d * d)) 0 (n9 + 1)))) :: (an, .inr (0, [.ref q1])) :: wr) → va_S (aL s0) s.heap H locs → lv_has ls 3 [(0, .ref an)] → W p9 l e9 (headSpec GW { frames := 1, cells := 1, slots := 13, locals := 23 }).room s m9 ([.ref an, .int (iI ((n9 : Int)))] : List Value).toArray below9 meth9 c9 H locs 1 13 Q9 (F0 m9 42 ls [])) → W p9 l e9 (headSpec GW { frames := 1, cells := 1, slots := 13, locals := 23 }).room s m9 ([.ref an, .int (iI ((n9 : Int)))] : List Value).toArray below9 meth9 c9 H locs 1 13 Q9 (F0 m9 15 ls []) := by
    intro Q9 κ
    induction κ with
    | zero =>
      intro ν H locs ls hinv hP hD hS hl kex
      refine lv_iload_n hx hb d_N_init_15 rfl (lv_at hl 2 rfl) ?_
      refine lv_iload_n hx hb d_N_init_16 rfl (lv_at hl 1 rfl) ?_
      refine ri_icmp_gt (tgt := 42) hx hb d_N_init_17 (by decide) (by omega) (by omega) (fun c17 => ?_) (fun c17 => ?_)
      · have hN9 : ν = n9 + 1 := by omega
        subst hN9
        exact kex H locs ls hP hD hS (lv_sub hl [0] rfl)
      · exact absurd c17 (by omega)
    | succ κ ih =>
      intro ν H locs ls hinv hP hD hS hl kex
      refine lv_iload_n hx hb d_N_init_15 rfl (lv_at hl 2 rfl) ?_
      refine lv_iload_n hx hb d_N_init_16 rfl (lv_at hl 1 rfl) ?_
      refine ri_icmp_gt (tgt := 42) hx hb d_N_init_17 (by decide) (by omega) (by omega) (fun c17 => ?_) (fun c17 => ?_)
      · exact absurd c17 (by omega)
      · have q2 : 0 ≤ (0 + (ν : Int)) * (0 + ν) ∧ (0 + (ν : Int)) * (0 + ν) ≤ (n9 : Int) * n9 := ⟨Int.mul_nonneg (by omega) (by omega), sq_mono (by omega) (by omega)⟩
        have q3 : (n9 : Int) * n9 ≤ 12 * 12 := sq_mono (by omega) (by omega)
        refine lv_aload_n hx hb d_N_init_20 rfl (lv_at hl 0 rfl) ?_
        refine va_get (D := D) (ci := 0) (v := .ref q1) (C := R_N) (T := F_N) (N := 1) hx hb hG in_N hown hK hP 1 rfl rfl 0 (by decide) (hG _ g_355) (fun _ h9 => h9) rfl d_N_init_21 ?_
        refine lv_iload_n hx hb d_N_init_24 rfl (lv_at hl 2 rfl) ?_
        refine lv_iload_n hx hb d_N_init_25 rfl (lv_at hl 1 rfl) ?_
        refine lv_iload_n hx hb d_N_init_26 rfl (lv_at hl 1 rfl) ?_
        refine ri_imul hx hb d_N_init_27 ?_
        refine lv_iload_n hx hb d_N_init_28 rfl (lv_at hl 2 rfl) ?_
        refine lv_iload_n hx hb d_N_init_29 rfl (lv_at hl 2 rfl) ?_
        refine ri_imul hx hb d_N_init_30 ?_
        refine ri_isub hx hb d_N_init_31 ?_
        refine pu_call (ex_runSN (As := [.int (iI ((((n9 : Int)) * ((n9 : Int))) - ((0 + (ν : Int)) * (0 + (ν : Int)))))]) (rest := [.int (iI (0 + (ν : Int))), .ref q1]) ⟨hx, hb, hml, hown, hG⟩ (c_C_wholeRoot l ((n9 : Int) * n9 - (0 + (ν : Int)) * (0 + ν)) (by omega)) (cn_mk (n := 1) hG g_248 g_1 (cx_nest hC h0 g_354 _) rfl rfl (by decide +kernel) ⟨Nat.le_of_ble_eq_true rfl, Nat.le_of_ble_eq_true rfl⟩) (hG _ g_247) ⟨fun _ _ _ _ q => q, fun _ _ _ => rfl⟩ rfl rfl hl.1 rfl (lv_room (Nat.le_of_ble_eq_true rfl)) d_N_init_32 ⟨Nat.le_of_ble_eq_true rfl, Nat.le_of_ble_eq_true rfl⟩) (fun v9 h9 => ?_)
        obtain rfl := h9
        show W _ _ _ _ _ _ _ _ _ _ _ _ _ _ _ (F0 m9 35 ls [.int (iI (isq ((n9 : Int) * n9 - (0 + (ν : Int)) * (0 + ν)))), .int (iI (0 + (ν : Int))), .ref q1])
        refine ra_iast (v := isq ((n9 : Int) * n9 - (0 + (ν : Int)) * (0 + ν))) hx hb hK hP hD hS 0 rfl (by omega) (by omega) d_N_init_35 (fun H locs hP hD hS => ?_)
        have hP : va_P D classes ((q1, .inl (k 0, ai (n9 + 1) (zU (seqF (fun _ => 0) (fun d => isq ((n9 : Int) * n9 - d * d)) 0 (ν)) (0 + (ν : Int)) (isq ((n9 : Int) * n9 - (0 + (ν : Int)) * (0 + ν)))))) :: (an, .inr (0, [.ref q1])) :: wr) H := hP
        have hD : va_D (fun q : Nat => s0.heap.size ≤ q) ((q1, .inl (k 0, ai (n9 + 1) (zU (seqF (fun _ => 0) (fun d => isq ((n9 : Int) * n9 - d * d)) 0 (ν)) (0 + (ν : Int)) (isq ((n9 : Int) * n9 - (0 + (ν : Int)) * (0 + ν)))))) :: (an, .inr (0, [.ref q1])) :: wr) := hD
        rw [show zU (seqF (fun _ => 0) (fun d => isq ((n9 : Int) * n9 - d * d)) 0 (ν)) (0 + ν) (isq ((n9 : Int) * n9 - (0 + (ν : Int)) * (0 + ν))) = seqF (fun _ => 0) (fun d => isq ((n9 : Int) * n9 - d * d)) 0 (ν + 1) from seqF_s (fun _ => 0) (fun d => isq ((n9 : Int) * n9 - d * d)) 0 ν] at hP hD
        refine lv_iinc (v := iI (0 + ((ν + 1 : Nat) : Int))) (lv' := [(2, .int (iI (0 + ((ν + 1 : Nat) : Int)))), (0, .ref an), (1, .int (iI ((n9 : Int))))]) hx hb d_N_init_36 hl (k := 2) rfl ((ii_add _ _).trans (congrArg iI (by omega))) (by decide) rfl (fun ls hl => ?_)
        refine lv_goto (tgt := 15) hx hb d_N_init_39 (by decide) ?_
        exact ih (ν + 1) H locs ls (by omega) hP hD hS (lv_sub hl [1, 2, 0] rfl) kex
  refine loop _ (n9 + 1) 0 _ _ _ (by omega) (by rw [seqF_0]; exact hP) (by rw [seqF_0]; exact hD) hS (lv_sub hl [1, 2, 0] rfl) (fun H locs ls hP hD hS hl => ?_)
  exact re_v hx hb hr hlocks (fun t ht hW => ⟨_, ⟨q1, rfl, rfl⟩, wd_next h0 hS hP hD t ht hW⟩) hS.2.2 (Nat.le_of_ble_eq_true rfl) (Nat.le_of_ble_eq_true rfl) d_N_init_42
end
