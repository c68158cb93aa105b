/-! ===== the classes and their fields, by numbers (written by program from the words of tables_1) ===== -/
def Tc_0 : u_T := fun k => match k with
  | 0 => ("FriendBackup", "houses", "[LFriendBackup$House;", true)
  | 1 => ("FriendBackup", "coder", "LFriendBackup$Coder;", true)
  | 2 => ("FriendBackup", "draft", "LFriendBackup$Draft;", true)
  | 3 => ("FriendBackup", "restoredBytes", "[I", true)
  | 4 => ("FriendBackup", "solvedBytes", "[I", true)
  | 5 => ("FriendBackup", "dueBytes", "[I", true)
  | 6 => ("FriendBackup", "restoredLength", "I", false)
  | 7 => ("FriendBackup", "anySealed", "Z", false)
  | 8 => ("FriendBackup", "lastDay", "I", false)
  | _ => ("", "", "", false)
def Ty_0 : Nat → FieldType := fun k => match k with
  | 0 => (.array (.object "FriendBackup$House"))
  | 1 => (.object "FriendBackup$Coder")
  | 2 => (.object "FriendBackup$Draft")
  | 3 => (.array .int)
  | 4 => (.array .int)
  | 5 => (.array .int)
  | 6 => .int
  | 7 => .boolean
  | 8 => .int
  | _ => .int
theorem Tn_0 : ∀ a, a < 9 → ∀ b, b < 9 → a ≠ b → (Tc_0 a).2.1 ≠ (Tc_0 b).2.1 := by decide +kernel
theorem Tt_0 : ∀ k, k < 9 → parseFieldDescriptor (Tc_0 k).2.2.1 = some (Ty_0 k) := by decide +kernel
theorem Ti_0 : ∀ w ∈ u_ws "FriendBackup" Tc_0 9, w ∈ lw_tbl := fun w h => (goodIn_r (big := lw_tbl) _ [182, 184, 186, 188, 190, 192, 194, 196, 198] (by decide +kernel) (by decide +kernel) w h).1
def Tc_1 : u_T := fun k => match k with
  | 0 => ("FriendBackup$Chunk", "bytes", "[I", true)
  | 1 => ("FriendBackup$Chunk", "segment", "I", true)
  | 2 => ("FriendBackup$Chunk", "offset", "I", true)
  | 3 => ("FriendBackup$Chunk", "uses", "I", false)
  | _ => ("", "", "", false)
def Ty_1 : Nat → FieldType := fun k => match k with
  | 0 => (.array .int)
  | 1 => .int
  | 2 => .int
  | 3 => .int
  | _ => .int
theorem Tn_1 : ∀ a, a < 4 → ∀ b, b < 4 → a ≠ b → (Tc_1 a).2.1 ≠ (Tc_1 b).2.1 := by decide +kernel
theorem Tt_1 : ∀ k, k < 4 → parseFieldDescriptor (Tc_1 k).2.2.1 = some (Ty_1 k) := by decide +kernel
theorem Ti_1 : ∀ w ∈ u_ws "FriendBackup$Chunk" Tc_1 4, w ∈ lw_tbl := fun w h => (goodIn_r (big := lw_tbl) _ [507, 509, 511, 513] (by decide +kernel) (by decide +kernel) w h).1
def Tc_2 : u_T := fun k => match k with
  | 0 => ("FriendBackup$Coder", "field", "LFriendBackup$Field;", true)
  | 1 => ("FriendBackup$Coder", "factors", "[[I", true)
  | 2 => ("FriendBackup$Coder", "rows", "[[I", true)
  | 3 => ("FriendBackup$Coder", "k", "I", false)
  | 4 => ("FriendBackup$Coder", "n", "I", false)
  | 5 => ("FriendBackup$Coder", "length", "I", false)
  | 6 => ("FriendBackup$Coder", "taken", "I", false)
  | _ => ("", "", "", false)
def Ty_2 : Nat → FieldType := fun k => match k with
  | 0 => (.object "FriendBackup$Field")
  | 1 => (.array (.array .int))
  | 2 => (.array (.array .int))
  | 3 => .int
  | 4 => .int
  | 5 => .int
  | 6 => .int
  | _ => .int
theorem Tn_2 : ∀ a, a < 7 → ∀ b, b < 7 → a ≠ b → (Tc_2 a).2.1 ≠ (Tc_2 b).2.1 := by decide +kernel
theorem Tt_2 : ∀ k, k < 7 → parseFieldDescriptor (Tc_2 k).2.2.1 = some (Ty_2 k) := by decide +kernel
theorem Ti_2 : ∀ w ∈ u_ws "FriendBackup$Coder" Tc_2 7, w ∈ lw_tbl := fun w h => (goodIn_r (big := lw_tbl) _ [130, 132, 134, 136, 138, 140, 142] (by decide +kernel) (by decide +kernel) w h).1
def Tc_3 : u_T := fun k => match k with
  | 0 => ("FriendBackup$Draft", "chunks", "[LFriendBackup$Chunk;", true)
  | 1 => ("FriendBackup$Draft", "starts", "[I", true)
  | 2 => ("FriendBackup$Draft", "size", "I", false)
  | 3 => ("FriendBackup$Draft", "segment", "I", false)
  | 4 => ("FriendBackup$Draft", "filled", "I", false)
  | _ => ("", "", "", false)
def Ty_3 : Nat → FieldType := fun k => match k with
  | 0 => (.array (.object "FriendBackup$Chunk"))
  | 1 => (.array .int)
  | 2 => .int
  | 3 => .int
  | 4 => .int
  | _ => .int
theorem Tn_3 : ∀ a, a < 5 → ∀ b, b < 5 → a ≠ b → (Tc_3 a).2.1 ≠ (Tc_3 b).2.1 := by decide +kernel
theorem Tt_3 : ∀ k, k < 5 → parseFieldDescriptor (Tc_3 k).2.2.1 = some (Ty_3 k) := by decide +kernel
theorem Ti_3 : ∀ w ∈ u_ws "FriendBackup$Draft" Tc_3 5, w ∈ lw_tbl := fun w h => (goodIn_r (big := lw_tbl) _ [162, 164, 166, 168, 170] (by decide +kernel) (by decide +kernel) w h).1
def Tc_4 : u_T := fun k => match k with
  | 0 => ("FriendBackup$Field", "powers", "[I", true)
  | 1 => ("FriendBackup$Field", "logs", "[I", true)
  | _ => ("", "", "", false)
def Ty_4 : Nat → FieldType := fun k => match k with
  | 0 => (.array .int)
  | 1 => (.array .int)
  | _ => .int
theorem Tn_4 : ∀ a, a < 2 → ∀ b, b < 2 → a ≠ b → (Tc_4 a).2.1 ≠ (Tc_4 b).2.1 := by decide +kernel
theorem Tt_4 : ∀ k, k < 2 → parseFieldDescriptor (Tc_4 k).2.2.1 = some (Ty_4 k) := by decide +kernel
theorem Ti_4 : ∀ w ∈ u_ws "FriendBackup$Field" Tc_4 2, w ∈ lw_tbl := fun w h => (goodIn_r (big := lw_tbl) _ [103, 105] (by decide +kernel) (by decide +kernel) w h).1
def Tc_5 : u_T := fun k => match k with
  | 0 => ("FriendBackup$House", "number", "I", true)
  | 1 => ("FriendBackup$House", "blocks", "I", true)
  | 2 => ("FriendBackup$House", "limits", "[I", true)
  | 3 => ("FriendBackup$House", "stored", "[I", true)
  | 4 => ("FriendBackup$House", "pieceDays", "[I", true)
  | 5 => ("FriendBackup$House", "folder", "[[I", true)
  | 6 => ("FriendBackup$House", "lengths", "[I", true)
  | 7 => ("FriendBackup$House", "chunks", "Ljava/util/ArrayList;", true)
  | 8 => ("FriendBackup$House", "segments", "Ljava/util/ArrayList;", true)
  | 9 => ("FriendBackup$House", "snapshots", "Ljava/util/ArrayList;", true)
  | 10 => ("FriendBackup$House", "living", "I", false)
  | 11 => ("FriendBackup$House", "up", "Z", false)
  | 12 => ("FriendBackup$House", "bare", "Z", false)
  | 13 => ("FriendBackup$House", "everPlaced", "Z", false)
  | _ => ("", "", "", false)
def Ty_5 : Nat → FieldType := fun k => match k with
  | 0 => .int
  | 1 => .int
  | 2 => (.array .int)
  | 3 => (.array .int)
  | 4 => (.array .int)
  | 5 => (.array (.array .int))
  | 6 => (.array .int)
  | 7 => (.object "java/util/ArrayList")
  | 8 => (.object "java/util/ArrayList")
  | 9 => (.object "java/util/ArrayList")
  | 10 => .int
  | 11 => .boolean
  | 12 => .boolean
  | 13 => .boolean
  | _ => .int
theorem Tn_5 : ∀ a, a < 14 → ∀ b, b < 14 → a ≠ b → (Tc_5 a).2.1 ≠ (Tc_5 b).2.1 := by decide +kernel
theorem Tt_5 : ∀ k, k < 14 → parseFieldDescriptor (Tc_5 k).2.2.1 = some (Ty_5 k) := by decide +kernel
theorem Ti_5 : ∀ w ∈ u_ws "FriendBackup$House" Tc_5 14, w ∈ lw_tbl := fun w h => (goodIn_r (big := lw_tbl) _ [370, 372, 374, 376, 378, 380, 382, 384, 386, 388, 390, 392, 394, 396] (by decide +kernel) (by decide +kernel) w h).1
def Tc_6 : u_T := fun k => match k with
  | 0 => ("FriendBackup$Piece", "bytes", "[I", true)
  | 1 => ("FriendBackup$Piece", "answers", "[I", true)
  | 2 => ("FriendBackup$Piece", "keeper", "I", false)
  | 3 => ("FriendBackup$Piece", "there", "Z", false)
  | 4 => ("FriendBackup$Piece", "asked", "I", false)
  | _ => ("", "", "", false)
def Ty_6 : Nat → FieldType := fun k => match k with
  | 0 => (.array .int)
  | 1 => (.array .int)
  | 2 => .int
  | 3 => .boolean
  | 4 => .int
  | _ => .int
theorem Tn_6 : ∀ a, a < 5 → ∀ b, b < 5 → a ≠ b → (Tc_6 a).2.1 ≠ (Tc_6 b).2.1 := by decide +kernel
theorem Tt_6 : ∀ k, k < 5 → parseFieldDescriptor (Tc_6 k).2.2.1 = some (Ty_6 k) := by decide +kernel
theorem Ti_6 : ∀ w ∈ u_ws "FriendBackup$Piece" Tc_6 5, w ∈ lw_tbl := fun w h => (goodIn_r (big := lw_tbl) _ [612, 614, 616, 618, 620] (by decide +kernel) (by decide +kernel) w h).1
def Tc_7 : u_T := fun k => match k with
  | 0 => ("FriendBackup$Segment", "sealed", "[I", true)
  | 1 => ("FriendBackup$Segment", "held", "[I", true)
  | 2 => ("FriendBackup$Segment", "pieces", "[LFriendBackup$Piece;", true)
  | 3 => ("FriendBackup$Segment", "isHeld", "Z", false)
  | 4 => ("FriendBackup$Segment", "freed", "Z", false)
  | 5 => ("FriendBackup$Segment", "chunks", "I", false)
  | _ => ("", "", "", false)
def Ty_7 : Nat → FieldType := fun k => match k with
  | 0 => (.array .int)
  | 1 => (.array .int)
  | 2 => (.array (.object "FriendBackup$Piece"))
  | 3 => .boolean
  | 4 => .boolean
  | 5 => .int
  | _ => .int
theorem Tn_7 : ∀ a, a < 6 → ∀ b, b < 6 → a ≠ b → (Tc_7 a).2.1 ≠ (Tc_7 b).2.1 := by decide +kernel
theorem Tt_7 : ∀ k, k < 6 → parseFieldDescriptor (Tc_7 k).2.2.1 = some (Ty_7 k) := by decide +kernel
theorem Ti_7 : ∀ w ∈ u_ws "FriendBackup$Segment" Tc_7 6, w ∈ lw_tbl := fun w h => (goodIn_r (big := lw_tbl) _ [638, 640, 642, 644, 646, 648] (by decide +kernel) (by decide +kernel) w h).1
def Tc_8 : u_T := fun k => match k with
  | 0 => ("FriendBackup$Snapshot", "chunks", "[LFriendBackup$Chunk;", true)
  | 1 => ("FriendBackup$Snapshot", "starts", "[I", true)
  | 2 => ("FriendBackup$Snapshot", "hasFile", "[Z", true)
  | 3 => ("FriendBackup$Snapshot", "forgotten", "Z", false)
  | _ => ("", "", "", false)
def Ty_8 : Nat → FieldType := fun k => match k with
  | 0 => (.array (.object "FriendBackup$Chunk"))
  | 1 => (.array .int)
  | 2 => (.array .boolean)
  | 3 => .boolean
  | _ => .int
theorem Tn_8 : ∀ a, a < 4 → ∀ b, b < 4 → a ≠ b → (Tc_8 a).2.1 ≠ (Tc_8 b).2.1 := by decide +kernel
theorem Tt_8 : ∀ k, k < 4 → parseFieldDescriptor (Tc_8 k).2.2.1 = some (Ty_8 k) := by decide +kernel
theorem Ti_8 : ∀ w ∈ u_ws "FriendBackup$Snapshot" Tc_8 4, w ∈ lw_tbl := fun w h => (goodIn_r (big := lw_tbl) _ [685, 687, 689, 691] (by decide +kernel) (by decide +kernel) w h).1
def Tc_9 : u_T := fun k => match k with
  | 0 => ("FriendBackupModel", "refusal", "I", false)
  | 1 => ("FriendBackupModel", "day", "I", false)
  | 2 => ("FriendBackupModel", "codeK", "I", false)
  | 3 => ("FriendBackupModel", "codeN", "I", false)
  | 4 => ("FriendBackupModel", "wasSealed", "Z", false)
  | 5 => ("FriendBackupModel", "disk", "[I", true)
  | 6 => ("FriendBackupModel", "isUp", "[Z", true)
  | 7 => ("FriendBackupModel", "isBare", "[Z", true)
  | 8 => ("FriendBackupModel", "everPlaced", "[Z", true)
  | 9 => ("FriendBackupModel", "limits", "[I", true)
  | 10 => ("FriendBackupModel", "kept", "[I", true)
  | 11 => ("FriendBackupModel", "days", "[I", true)
  | 12 => ("FriendBackupModel", "isFile", "[Z", true)
  | 13 => ("FriendBackupModel", "fileSizes", "[I", true)
  | 14 => ("FriendBackupModel", "fileBytes", "[I", true)
  | 15 => ("FriendBackupModel", "made", "[I", true)
  | 16 => ("FriendBackupModel", "numbers", "[I", true)
  | 17 => ("FriendBackupModel", "many", "[I", true)
  | 18 => ("FriendBackupModel", "places", "[I", true)
  | 19 => ("FriendBackupModel", "lengths", "[I", true)
  | 20 => ("FriendBackupModel", "segments", "[I", true)
  | 21 => ("FriendBackupModel", "isFreed", "[Z", true)
  | 22 => ("FriendBackupModel", "isHeld", "[Z", true)
  | 23 => ("FriendBackupModel", "truth", "[I", true)
  | 24 => ("FriendBackupModel", "held", "[I", true)
  | 25 => ("FriendBackupModel", "book", "[I", true)
  | 26 => ("FriendBackupModel", "isThere", "[Z", true)
  | 27 => ("FriendBackupModel", "bytes", "[I", true)
  | 28 => ("FriendBackupModel", "asked", "[I", true)
  | 29 => ("FriendBackupModel", "answers", "[I", true)
  | 30 => ("FriendBackupModel", "fill", "I", false)
  | 31 => ("FriendBackupModel", "row", "[I", true)
  | 32 => ("FriendBackupModel", "matrix", "[I", true)
  | 33 => ("FriendBackupModel", "solved", "[I", true)
  | 34 => ("FriendBackupModel", "right", "[I", true)
  | 35 => ("FriendBackupModel", "restoredSize", "I", false)
  | 36 => ("FriendBackupModel", "restored", "[I", true)
  | 37 => ("FriendBackupModel", "fresh", "[I", true)
  | _ => ("", "", "", false)
def Ty_9 : Nat → FieldType := fun k => match k with
  | 0 => .int
  | 1 => .int
  | 2 => .int
  | 3 => .int
  | 4 => .boolean
  | 5 => (.array .int)
  | 6 => (.array .boolean)
  | 7 => (.array .boolean)
  | 8 => (.array .boolean)
  | 9 => (.array .int)
  | 10 => (.array .int)
  | 11 => (.array .int)
  | 12 => (.array .boolean)
  | 13 => (.array .int)
  | 14 => (.array .int)
  | 15 => (.array .int)
  | 16 => (.array .int)
  | 17 => (.array .int)
  | 18 => (.array .int)
  | 19 => (.array .int)
  | 20 => (.array .int)
  | 21 => (.array .boolean)
  | 22 => (.array .boolean)
  | 23 => (.array .int)
  | 24 => (.array .int)
  | 25 => (.array .int)
  | 26 => (.array .boolean)
  | 27 => (.array .int)
  | 28 => (.array .int)
  | 29 => (.array .int)
  | 30 => .int
  | 31 => (.array .int)
  | 32 => (.array .int)
  | 33 => (.array .int)
  | 34 => (.array .int)
  | 35 => .int
  | 36 => (.array .int)
  | 37 => (.array .int)
  | _ => .int
theorem Tn_9 : ∀ a, a < 38 → ∀ b, b < 38 → a ≠ b → (Tc_9 a).2.1 ≠ (Tc_9 b).2.1 := by decide +kernel
theorem Tt_9 : ∀ k, k < 38 → parseFieldDescriptor (Tc_9 k).2.2.1 = some (Ty_9 k) := by decide +kernel
theorem Ti_9 : ∀ w ∈ u_ws "FriendBackupModel" Tc_9 38, w ∈ lw_tbl := fun w h => (goodIn_r (big := lw_tbl) _ [1009, 1011, 1013, 1015, 1017, 1019, 1021, 1023, 1025, 1027, 1029, 1031, 1033, 1035, 1037, 1039, 1041, 1043, 1045, 1047, 1049, 1051, 1053, 1055, 1057, 1059, 1061, 1063, 1065, 1067, 1069, 1071, 1073, 1075, 1077, 1079, 1081, 1083] (by decide +kernel) (by decide +kernel) w h).1
def Tc_10 : u_T := fun k => match k with
  | 0 => ("java/util/ArrayList", "elementData", "[Ljava/lang/Object;", false)
  | 1 => ("java/util/ArrayList", "size", "I", false)
  | 2 => ("java/util/AbstractList", "modCount", "I", false)
  | _ => ("", "", "", false)
def Ty_10 : Nat → FieldType := fun k => match k with
  | 0 => (.array (.object "java/lang/Object"))
  | 1 => .int
  | 2 => .int
  | _ => .int
theorem Tn_10 : ∀ a, a < 3 → ∀ b, b < 3 → a ≠ b → (Tc_10 a).2.1 ≠ (Tc_10 b).2.1 := by decide +kernel
theorem Tt_10 : ∀ k, k < 3 → parseFieldDescriptor (Tc_10 k).2.2.1 = some (Ty_10 k) := by decide +kernel
theorem Ti_10 : ∀ w ∈ u_ws "java/util/ArrayList" Tc_10 3, w ∈ lw_tbl := fun w h => (goodIn_r (big := lw_tbl) _ [333, 335, 337] (by decide +kernel) (by decide +kernel) w h).1
def clT : List vw_C := [("FriendBackup", Tc_0, 9), ("FriendBackup$Chunk", Tc_1, 4), ("FriendBackup$Coder", Tc_2, 7), ("FriendBackup$Draft", Tc_3, 5), ("FriendBackup$Field", Tc_4, 2), ("FriendBackup$House", Tc_5, 14), ("FriendBackup$Piece", Tc_6, 5), ("FriendBackup$Segment", Tc_7, 6), ("FriendBackup$Snapshot", Tc_8, 4), ("FriendBackupModel", Tc_9, 38), ("java/util/ArrayList", Tc_10, 3)]
def fyT : Nat → Nat → FieldType := fun ci => match ci with
  | 0 => Ty_0
  | 1 => Ty_1
  | 2 => Ty_2
  | 3 => Ty_3
  | 4 => Ty_4
  | 5 => Ty_5
  | 6 => Ty_6
  | 7 => Ty_7
  | 8 => Ty_8
  | 9 => Ty_9
  | 10 => Ty_10
  | _ => fun _ => .int
/-- is the field a reference -/
def frT : List (List Bool) := [[true, true, true, true, true, true, false, false, false], [true, false, false, false], [true, true, true, false, false, false, false], [true, true, false, false, false], [true, true], [false, false, true, true, true, true, true, true, true, true, false, false, false, false], [true, true, false, false, false], [true, true, true, false, false, false], [true, true, true, false], [false, false, false, false, false, true, true, true, true, true, true, true, true, true, true, true, true, true, true, true, true, true, true, true, true, true, true, true, true, true, false, true, true, true, true, false, true, true], [true, false, false]]
def frf (ci k : Nat) : Bool := (frT.getD ci []).getD k false
