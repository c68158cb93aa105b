/-! ===== methods, pools: written by program from the words of tables_1 ===== -/
def oT : List String := ["FriendBackup", "FriendBackup$Chunk", "FriendBackup$Coder", "FriendBackup$Draft", "FriendBackup$Field", "FriendBackup$House", "FriendBackup$Piece", "FriendBackup$Segment", "FriendBackup$Snapshot", "FriendBackupModel", "java/util/ArrayList", "FriendBackupLaw", "java/util/AbstractList", "java/util/AbstractCollection", "java/lang/Math", "java/util/Arrays", "java/util/Objects", "jdk/internal/util/ArraysSupport", "jdk/internal/util/Preconditions"]
def oN (o : Nat) : String := oT.getD o ""
def M_FB_init : Mt := (⟨"FriendBackup", "<init>", "()V"⟩, prog_1_method_1_code, 1, none, [], 0)
def M_Coder_init : Mt := (⟨"FriendBackup$Coder", "<init>", "()V"⟩, prog_3_method_1_code, 3, none, [], 2)
def M_Field_init : Mt := (⟨"FriendBackup$Field", "<init>", "()V"⟩, prog_5_method_1_code, 3, none, [], 4)
def M_Field_inverse : Mt := (⟨"FriendBackup$Field", "inverse", "(I)I"⟩, prog_5_method_3_code, 2, some (FieldType.int), [], 4)
def M_Coder_use : Mt := (⟨"FriendBackup$Coder", "use", "(II)V"⟩, prog_3_method_2_code, 3, none, [], 2)
def M_Draft_init : Mt := (⟨"FriendBackup$Draft", "<init>", "()V"⟩, prog_4_method_1_code, 1, none, [], 3)
def M_FB_restored : Mt := (⟨"FriendBackup", "restored", "(I)I"⟩, prog_1_method_17_code, 2, some (FieldType.int), [], 0)
def M_FB_isWithin : Mt := (⟨"FriendBackup", "isWithin", "(III)Z"⟩, prog_1_method_27_code, 3, some (FieldType.boolean), [], 0)
def M_La_code : Mt := (⟨"FriendBackupLaw", "code", "(LFriendBackup;II)I"⟩, method_3_code, 4, some (FieldType.int), [(0, 6, 9, 13), (0, 6, 12, 15)], 11)
def M_FB_code : Mt := (⟨"FriendBackup", "code", "(II)V"⟩, prog_1_method_2_code, 3, none, [], 0)
def M_FB_requireArgument : Mt := (⟨"FriendBackup", "requireArgument", "(Z)V"⟩, prog_1_method_25_code, 1, none, [], 0)
def M_FB_requireState : Mt := (⟨"FriendBackup", "requireState", "(Z)V"⟩, prog_1_method_26_code, 1, none, [], 0)
def M_La_house : Mt := (⟨"FriendBackupLaw", "house", "(LFriendBackup;II)I"⟩, method_4_code, 4, some (FieldType.int), [(0, 6, 9, 13), (0, 6, 12, 15)], 11)
def M_FB_house : Mt := (⟨"FriendBackup", "house", "(II)V"⟩, prog_1_method_3_code, 3, none, [], 0)
def M_House_init : Mt := (⟨"FriendBackup$House", "<init>", "(II)V"⟩, prog_6_method_1_code, 4, none, [], 5)
def M_AL_init : Mt := (⟨"java/util/ArrayList", "<init>", "()V"⟩, prog_24_method_2_code, 1, none, [], 10)
def M_AbL_init : Mt := (⟨"java/util/AbstractList", "<init>", "()V"⟩, prog_23_method_1_code, 1, none, [], 12)
def M_AbC_init : Mt := (⟨"java/util/AbstractCollection", "<init>", "()V"⟩, prog_22_method_1_code, 1, none, [], 13)
def M_La_contract : Mt := (⟨"FriendBackupLaw", "contract", "(LFriendBackup;III[J)I"⟩, method_5_code, 6, some (FieldType.int), [(0, 19, 22, 13)], 11)
def M_FB_contract : Mt := (⟨"FriendBackup", "contract", "(III)Z"⟩, prog_1_method_4_code, 6, some (FieldType.boolean), [], 0)
def M_FB_houseOf : Mt := (⟨"FriendBackup", "houseOf", "(I)LFriendBackup$House;"⟩, prog_1_method_29_code, 3, some ((FieldType.object "FriendBackup$House")), [], 0)
def M_House_canAgree : Mt := (⟨"FriendBackup$House", "canAgree", "(II)Z"⟩, prog_6_method_3_code, 5, some (FieldType.boolean), [], 5)
def M_La_write : Mt := (⟨"FriendBackupLaw", "write", "(LFriendBackup;III[J)I"⟩, method_6_code, 6, some (FieldType.int), [(0, 12, 15, 13), (0, 12, 19, 15)], 11)
def M_FB_write : Mt := (⟨"FriendBackup", "write", "(III)I"⟩, prog_1_method_5_code, 6, some (FieldType.int), [], 0)
def M_FB_isTag : Mt := (⟨"FriendBackup", "isTag", "(I)Z"⟩, prog_1_method_28_code, 1, some (FieldType.boolean), [], 0)
def M_Ma_max : Mt := (⟨"java/lang/Math", "max", "(II)I"⟩, prog_18_method_65_code, 2, some (FieldType.int), [], 14)
def M_La_file : Mt := (⟨"FriendBackupLaw", "file", "(LFriendBackup;IIZ[J)I"⟩, method_7_code, 6, some (FieldType.int), [(0, 19, 22, 13), (0, 19, 26, 15)], 11)
def M_FB_file : Mt := (⟨"FriendBackup", "file", "(IIZ)Z"⟩, prog_1_method_6_code, 6, some (FieldType.boolean), [], 0)
def M_House_hasFile : Mt := (⟨"FriendBackup$House", "hasFile", "(I)Z"⟩, prog_6_method_2_code, 2, some (FieldType.boolean), [], 5)
def M_La_seal : Mt := (⟨"FriendBackupLaw", "seal", "(LFriendBackup;I[J)I"⟩, method_8_code, 4, some (FieldType.int), [(0, 9, 12, 13), (0, 9, 15, 15)], 11)
def M_FB_seal : Mt := (⟨"FriendBackup", "seal", "(I)I"⟩, prog_1_method_7_code, 5, some (FieldType.int), [], 0)
def M_AL_size : Mt := (⟨"java/util/ArrayList", "size", "()I"⟩, prog_24_method_8_code, 1, some (FieldType.int), [], 10)
def M_Draft_lay : Mt := (⟨"FriendBackup$Draft", "lay", "(LFriendBackup$House;)Z"⟩, prog_4_method_2_code, 3, some (FieldType.boolean), [], 3)
def M_Draft_cut : Mt := (⟨"FriendBackup$Draft", "cut", "(LFriendBackup$House;[II)Z"⟩, prog_4_method_3_code, 6, some (FieldType.boolean), [], 3)
def M_Draft_isCutBehind : Mt := (⟨"FriendBackup$Draft", "isCutBehind", "([III)Z"⟩, prog_4_method_4_code, 5, some (FieldType.boolean), [], 3)
def M_Draft_add : Mt := (⟨"FriendBackup$Draft", "add", "(LFriendBackup$House;[III)Z"⟩, prog_4_method_5_code, 6, some (FieldType.boolean), [], 3)
def M_House_findChunk : Mt := (⟨"FriendBackup$House", "findChunk", "([III)LFriendBackup$Chunk;"⟩, prog_6_method_9_code, 5, some ((FieldType.object "FriendBackup$Chunk")), [], 5)
def M_AL_get : Mt := (⟨"java/util/ArrayList", "get", "(I)Ljava/lang/Object;"⟩, prog_24_method_20_code, 2, some ((FieldType.object "java/lang/Object")), [], 10)
def M_Ob_checkIndex : Mt := (⟨"java/util/Objects", "checkIndex", "(II)I"⟩, prog_28_method_17_code, 2, some (FieldType.int), [], 16)
def M_Pr_checkIndex : Mt := (⟨"jdk/internal/util/Preconditions", "checkIndex", "(IILjava/util/function/BiFunction;)I"⟩, prog_32_method_11_code, 3, some (FieldType.int), [], 18)
def M_AL_elementData : Mt := (⟨"java/util/ArrayList", "elementData", "(I)Ljava/lang/Object;"⟩, prog_24_method_18_code, 2, some ((FieldType.object "java/lang/Object")), [], 10)
def M_Chunk_isSame : Mt := (⟨"FriendBackup$Chunk", "isSame", "([III)Z"⟩, prog_2_method_2_code, 5, some (FieldType.boolean), [], 1)
def M_Chunk_init : Mt := (⟨"FriendBackup$Chunk", "<init>", "([IIIII)V"⟩, prog_2_method_1_code, 6, none, [], 1)
def M_AL_add : Mt := (⟨"java/util/ArrayList", "add", "(Ljava/lang/Object;)Z"⟩, prog_24_method_25_code, 2, some (FieldType.boolean), [], 10)
def M_AL_add_2 : Mt := (⟨"java/util/ArrayList", "add", "(Ljava/lang/Object;[Ljava/lang/Object;I)V"⟩, prog_24_method_24_code, 4, none, [], 10)
def M_AL_grow : Mt := (⟨"java/util/ArrayList", "grow", "()[Ljava/lang/Object;"⟩, prog_24_method_7_code, 1, some ((FieldType.array (FieldType.object "java/lang/Object"))), [], 10)
def M_AL_grow_2 : Mt := (⟨"java/util/ArrayList", "grow", "(I)[Ljava/lang/Object;"⟩, prog_24_method_6_code, 4, some ((FieldType.array (FieldType.object "java/lang/Object"))), [], 10)
def M_AS_newLength : Mt := (⟨"jdk/internal/util/ArraysSupport", "newLength", "(III)I"⟩, prog_31_method_27_code, 4, some (FieldType.int), [], 17)
def M_AS_hugeLength : Mt := (⟨"jdk/internal/util/ArraysSupport", "hugeLength", "(II)I"⟩, prog_31_method_28_code, 3, some (FieldType.int), [], 17)
def M_Ar_copyOf : Mt := (⟨"java/util/Arrays", "copyOf", "([Ljava/lang/Object;I)[Ljava/lang/Object;"⟩, prog_25_method_119_code, 2, some ((FieldType.array (FieldType.object "java/lang/Object"))), [], 15)
def M_Ar_copyOf_2 : Mt := (⟨"java/util/Arrays", "copyOf", "([Ljava/lang/Object;ILjava/lang/Class;)[Ljava/lang/Object;"⟩, prog_25_method_120_code, 4, some ((FieldType.array (FieldType.object "java/lang/Object"))), [], 15)
def M_Ma_min : Mt := (⟨"java/lang/Math", "min", "(II)I"⟩, prog_18_method_69_code, 2, some (FieldType.int), [], 14)
def M_House_dropChunksFrom : Mt := (⟨"FriendBackup$House", "dropChunksFrom", "(I)V"⟩, prog_6_method_10_code, 3, none, [], 5)
def M_AL_remove : Mt := (⟨"java/util/ArrayList", "remove", "(I)Ljava/lang/Object;"⟩, prog_24_method_29_code, 4, some ((FieldType.object "java/lang/Object")), [], 10)
def M_AL_fastRemove : Mt := (⟨"java/util/ArrayList", "fastRemove", "([Ljava/lang/Object;I)V"⟩, prog_24_method_39_code, 4, none, [], 10)
def M_House_addSegments : Mt := (⟨"FriendBackup$House", "addSegments", "(ILFriendBackup$Coder;)V"⟩, prog_6_method_11_code, 4, none, [], 5)
def M_Segment_init : Mt := (⟨"FriendBackup$Segment", "<init>", "(LFriendBackup$Coder;)V"⟩, prog_8_method_1_code, 3, none, [], 7)
def M_Piece_init : Mt := (⟨"FriendBackup$Piece", "<init>", "(I)V"⟩, prog_7_method_1_code, 2, none, [], 6)
def M_House_fillSegments : Mt := (⟨"FriendBackup$House", "fillSegments", "(I)V"⟩, prog_6_method_12_code, 4, none, [], 5)
def M_Segment_add : Mt := (⟨"FriendBackup$Segment", "add", "(LFriendBackup$Chunk;)V"⟩, prog_8_method_2_code, 2, none, [], 7)
def M_Snapshot_init : Mt := (⟨"FriendBackup$Snapshot", "<init>", "(LFriendBackup$Draft;LFriendBackup$House;)V"⟩, prog_9_method_1_code, 4, none, [], 8)
def M_House_addSnapshot : Mt := (⟨"FriendBackup$House", "addSnapshot", "(LFriendBackup$Snapshot;)V"⟩, prog_6_method_13_code, 3, none, [], 5)
def M_La_push : Mt := (⟨"FriendBackupLaw", "push", "(LFriendBackup;I[J)I"⟩, method_9_code, 4, some (FieldType.int), [(0, 9, 12, 13), (0, 9, 15, 15)], 11)
def M_FB_push : Mt := (⟨"FriendBackup", "push", "(I)I"⟩, prog_1_method_8_code, 6, some (FieldType.int), [], 0)
def M_FB_placeMissing : Mt := (⟨"FriendBackup", "placeMissing", "(LFriendBackup$House;LFriendBackup$Segment;)I"⟩, prog_1_method_38_code, 5, some (FieldType.int), [], 0)
def M_Piece_isPlaced : Mt := (⟨"FriendBackup$Piece", "isPlaced", "()Z"⟩, prog_7_method_2_code, 1, some (FieldType.boolean), [], 6)
def M_FB_place : Mt := (⟨"FriendBackup", "place", "(LFriendBackup$House;LFriendBackup$Segment;I)Z"⟩, prog_1_method_39_code, 6, some (FieldType.boolean), [], 0)
def M_FB_bestKeeper : Mt := (⟨"FriendBackup", "bestKeeper", "(LFriendBackup$House;LFriendBackup$Segment;)LFriendBackup$House;"⟩, prog_1_method_40_code, 8, some ((FieldType.object "FriendBackup$House")), [], 0)
def M_House_canTakeFrom : Mt := (⟨"FriendBackup$House", "canTakeFrom", "(I)Z"⟩, prog_6_method_4_code, 2, some (FieldType.boolean), [], 5)
def M_Segment_pieceWith : Mt := (⟨"FriendBackup$Segment", "pieceWith", "(I)I"⟩, prog_8_method_3_code, 3, some (FieldType.int), [], 7)
def M_House_countKept : Mt := (⟨"FriendBackup$House", "countKept", "()I"⟩, prog_6_method_5_code, 3, some (FieldType.int), [], 5)
def M_Coder_encode : Mt := (⟨"FriendBackup$Coder", "encode", "([II[I)V"⟩, prog_3_method_3_code, 7, none, [], 2)
def M_Field_times : Mt := (⟨"FriendBackup$Field", "times", "(II)I"⟩, prog_5_method_2_code, 3, some (FieldType.int), [], 4)
def M_Coder_answerAll : Mt := (⟨"FriendBackup$Coder", "answerAll", "([I[I)V"⟩, prog_3_method_9_code, 4, none, [], 2)
def M_Coder_answer : Mt := (⟨"FriendBackup$Coder", "answer", "([II)I"⟩, prog_3_method_10_code, 6, some (FieldType.int), [], 2)
def M_La_up : Mt := (⟨"FriendBackupLaw", "up", "(LFriendBackup;IZ[J)I"⟩, method_10_code, 5, some (FieldType.int), [(0, 17, 20, 13)], 11)
def M_FB_up : Mt := (⟨"FriendBackup", "up", "(IZ)Z"⟩, prog_1_method_9_code, 5, some (FieldType.boolean), [], 0)
def M_La_loseDisk : Mt := (⟨"FriendBackupLaw", "loseDisk", "(LFriendBackup;I)I"⟩, method_11_code, 3, some (FieldType.int), [(0, 5, 8, 13)], 11)
def M_FB_loseDisk : Mt := (⟨"FriendBackup", "loseDisk", "(I)V"⟩, prog_1_method_10_code, 4, none, [], 0)
def M_House_losePiecesWith : Mt := (⟨"FriendBackup$House", "losePiecesWith", "(I)V"⟩, prog_6_method_15_code, 5, none, [], 5)
def M_House_loseOwn : Mt := (⟨"FriendBackup$House", "loseOwn", "()V"⟩, prog_6_method_16_code, 2, none, [], 5)
def M_La_harm : Mt := (⟨"FriendBackupLaw", "harm", "(LFriendBackup;IIIII[J)I"⟩, method_12_code, 8, some (FieldType.int), [(0, 23, 26, 13)], 11)
def M_FB_harm : Mt := (⟨"FriendBackup", "harm", "(IIIII)Z"⟩, prog_1_method_11_code, 10, some (FieldType.boolean), [], 0)
def M_FB_segmentOf : Mt := (⟨"FriendBackup", "segmentOf", "(LFriendBackup$House;I)LFriendBackup$Segment;"⟩, prog_1_method_30_code, 3, some ((FieldType.object "FriendBackup$Segment")), [], 0)
def M_La_recover : Mt := (⟨"FriendBackupLaw", "recover", "(LFriendBackup;I[J)I"⟩, method_13_code, 4, some (FieldType.int), [(0, 16, 19, 13)], 11)
def M_FB_recover : Mt := (⟨"FriendBackup", "recover", "(I)Z"⟩, prog_1_method_12_code, 3, some (FieldType.boolean), [], 0)
def M_FB_hasReachable : Mt := (⟨"FriendBackup", "hasReachable", "(LFriendBackup$House;)Z"⟩, prog_1_method_36_code, 3, some (FieldType.boolean), [], 0)
def M_FB_countReachable : Mt := (⟨"FriendBackup", "countReachable", "(LFriendBackup$Segment;)I"⟩, prog_1_method_35_code, 4, some (FieldType.int), [], 0)
def M_FB_isReachable : Mt := (⟨"FriendBackup", "isReachable", "(LFriendBackup$Piece;)Z"⟩, prog_1_method_34_code, 2, some (FieldType.boolean), [], 0)
def M_FB_isUp : Mt := (⟨"FriendBackup", "isUp", "(I)Z"⟩, prog_1_method_33_code, 2, some (FieldType.boolean), [], 0)
def M_La_sample : Mt := (⟨"FriendBackupLaw", "sample", "(LFriendBackup;III[J)I"⟩, method_14_code, 6, some (FieldType.int), [(0, 12, 15, 13), (0, 12, 19, 15)], 11)
def M_FB_sample : Mt := (⟨"FriendBackup", "sample", "(III)I"⟩, prog_1_method_13_code, 8, some (FieldType.int), [], 0)
def M_FB_pieceOf : Mt := (⟨"FriendBackup", "pieceOf", "(LFriendBackup$Segment;I)LFriendBackup$Piece;"⟩, prog_1_method_31_code, 2, some ((FieldType.object "FriendBackup$Piece")), [], 0)
def M_La_audit : Mt := (⟨"FriendBackupLaw", "audit", "(LFriendBackup;I[J)I"⟩, method_15_code, 4, some (FieldType.int), [(0, 9, 12, 13), (0, 9, 15, 15)], 11)
def M_FB_audit : Mt := (⟨"FriendBackup", "audit", "(I)I"⟩, prog_1_method_14_code, 6, some (FieldType.int), [], 0)
def M_FB_auditSegment : Mt := (⟨"FriendBackup", "auditSegment", "(LFriendBackup$House;LFriendBackup$Segment;)I"⟩, prog_1_method_41_code, 6, some (FieldType.int), [], 0)
def M_FB_isPieceOf : Mt := (⟨"FriendBackup", "isPieceOf", "([IILFriendBackup$Piece;)Z"⟩, prog_1_method_37_code, 5, some (FieldType.boolean), [], 0)
def M_FB_takeBack : Mt := (⟨"FriendBackup", "takeBack", "(LFriendBackup$House;LFriendBackup$Piece;)V"⟩, prog_1_method_42_code, 3, none, [], 0)
def M_La_repair : Mt := (⟨"FriendBackupLaw", "repair", "(LFriendBackup;I[J)I"⟩, method_16_code, 4, some (FieldType.int), [(0, 9, 12, 13), (0, 9, 15, 15)], 11)
def M_FB_repair : Mt := (⟨"FriendBackup", "repair", "(I)I"⟩, prog_1_method_15_code, 6, some (FieldType.int), [], 0)
def M_FB_solve : Mt := (⟨"FriendBackup", "solve", "(LFriendBackup$Segment;[I)V"⟩, prog_1_method_45_code, 4, none, [], 0)
def M_Coder_beginSolving : Mt := (⟨"FriendBackup$Coder", "beginSolving", "()V"⟩, prog_3_method_4_code, 1, none, [], 2)
def M_Coder_take : Mt := (⟨"FriendBackup$Coder", "take", "(I[I)V"⟩, prog_3_method_5_code, 3, none, [], 2)
def M_Coder_solveInto : Mt := (⟨"FriendBackup$Coder", "solveInto", "([I)V"⟩, prog_3_method_6_code, 4, none, [], 2)
def M_Coder_scale : Mt := (⟨"FriendBackup$Coder", "scale", "([II)V"⟩, prog_3_method_7_code, 5, none, [], 2)
def M_Coder_clearColumn : Mt := (⟨"FriendBackup$Coder", "clearColumn", "([I[II)V"⟩, prog_3_method_8_code, 6, none, [], 2)
def M_FB_unplaceMissing : Mt := (⟨"FriendBackup", "unplaceMissing", "(LFriendBackup$Segment;)V"⟩, prog_1_method_43_code, 4, none, [], 0)
def M_La_restore : Mt := (⟨"FriendBackupLaw", "restore", "(LFriendBackup;III[J)I"⟩, method_17_code, 6, some (FieldType.int), [(0, 12, 15, 13), (0, 12, 19, 15)], 11)
def M_FB_restore : Mt := (⟨"FriendBackup", "restore", "(III)I"⟩, prog_1_method_16_code, 6, some (FieldType.int), [], 0)
def M_FB_snapshotOf : Mt := (⟨"FriendBackup", "snapshotOf", "(LFriendBackup$House;I)LFriendBackup$Snapshot;"⟩, prog_1_method_32_code, 3, some ((FieldType.object "FriendBackup$Snapshot")), [], 0)
def M_FB_canRestore : Mt := (⟨"FriendBackup", "canRestore", "(LFriendBackup$House;LFriendBackup$Snapshot;I)Z"⟩, prog_1_method_46_code, 5, some (FieldType.boolean), [], 0)
def M_FB_restoreFile : Mt := (⟨"FriendBackup", "restoreFile", "(LFriendBackup$House;LFriendBackup$Snapshot;I)V"⟩, prog_1_method_47_code, 7, none, [], 0)
def M_La_forget : Mt := (⟨"FriendBackupLaw", "forget", "(LFriendBackup;II[J)I"⟩, method_18_code, 5, some (FieldType.int), [(0, 10, 13, 13), (0, 10, 17, 15)], 11)
def M_FB_forget : Mt := (⟨"FriendBackup", "forget", "(II)I"⟩, prog_1_method_18_code, 8, some (FieldType.int), [], 0)
def M_House_dropSnapshot : Mt := (⟨"FriendBackup$House", "dropSnapshot", "(LFriendBackup$Snapshot;)V"⟩, prog_6_method_14_code, 4, none, [], 5)
def M_FB_free : Mt := (⟨"FriendBackup", "free", "(LFriendBackup$House;LFriendBackup$Segment;)V"⟩, prog_1_method_44_code, 4, none, [], 0)
def M_La_health : Mt := (⟨"FriendBackupLaw", "health", "(LFriendBackup;II[J)I"⟩, method_19_code, 5, some (FieldType.int), [(0, 10, 13, 13)], 11)
def M_FB_health : Mt := (⟨"FriendBackup", "health", "(II)I"⟩, prog_1_method_19_code, 7, some (FieldType.int), [], 0)
def M_La_keeper : Mt := (⟨"FriendBackupLaw", "keeper", "(LFriendBackup;III[J)I"⟩, method_20_code, 6, some (FieldType.int), [(0, 12, 15, 13)], 11)
def M_FB_keeper : Mt := (⟨"FriendBackup", "keeper", "(III)I"⟩, prog_1_method_20_code, 4, some (FieldType.int), [], 0)
def M_La_count : Mt := (⟨"FriendBackupLaw", "count", "(LFriendBackup;II[J)I"⟩, method_21_code, 5, some (FieldType.int), [(0, 10, 13, 13)], 11)
def M_FB_count : Mt := (⟨"FriendBackup", "count", "(II)I"⟩, prog_1_method_21_code, 4, some (FieldType.int), [], 0)
def M_House_countUnfreed : Mt := (⟨"FriendBackup$House", "countUnfreed", "()I"⟩, prog_6_method_7_code, 3, some (FieldType.int), [], 5)
def M_House_countHeld : Mt := (⟨"FriendBackup$House", "countHeld", "()I"⟩, prog_6_method_8_code, 3, some (FieldType.int), [], 5)
def M_La_stored : Mt := (⟨"FriendBackupLaw", "stored", "(LFriendBackup;II[J)I"⟩, method_22_code, 5, some (FieldType.int), [(0, 10, 13, 13)], 11)
def M_FB_stored : Mt := (⟨"FriendBackup", "stored", "(II)I"⟩, prog_1_method_22_code, 5, some (FieldType.int), [], 0)
def M_La_settle : Mt := (⟨"FriendBackupLaw", "settle", "(LFriendBackup;I)I"⟩, method_23_code, 3, some (FieldType.int), [(0, 5, 8, 13)], 11)
def M_FB_settle : Mt := (⟨"FriendBackup", "settle", "(I)V"⟩, prog_1_method_23_code, 3, none, [], 0)
def M_House_addDays : Mt := (⟨"FriendBackup$House", "addDays", "(I)V"⟩, prog_6_method_6_code, 3, none, [], 5)
def M_La_balance : Mt := (⟨"FriendBackupLaw", "balance", "(LFriendBackup;II[J)I"⟩, method_24_code, 5, some (FieldType.int), [(0, 10, 13, 13)], 11)
def M_FB_balance : Mt := (⟨"FriendBackup", "balance", "(II)I"⟩, prog_1_method_24_code, 5, some (FieldType.int), [], 0)
def M_Mo_init : Mt := (⟨"FriendBackupModel", "<init>", "()V"⟩, prog_11_method_1_code, 2, none, [], 9)
def M_Mo_thrown : Mt := (⟨"FriendBackupModel", "thrown", "()I"⟩, prog_11_method_2_code, 1, some (FieldType.int), [], 9)
def M_Mo_code : Mt := (⟨"FriendBackupModel", "code", "(II)V"⟩, prog_11_method_9_code, 3, none, [], 9)
def M_Mo_isIn : Mt := (⟨"FriendBackupModel", "isIn", "(III)Z"⟩, prog_11_method_4_code, 3, some (FieldType.boolean), [], 9)
def M_Mo_refused : Mt := (⟨"FriendBackupModel", "refused", "(I)Z"⟩, prog_11_method_3_code, 2, some (FieldType.boolean), [], 9)
def M_Mo_house : Mt := (⟨"FriendBackupModel", "house", "(II)V"⟩, prog_11_method_10_code, 3, none, [], 9)
def M_Mo_contract : Mt := (⟨"FriendBackupModel", "contract", "(III)Z"⟩, prog_11_method_12_code, 7, some (FieldType.boolean), [], 9)
def M_Mo_isHouse : Mt := (⟨"FriendBackupModel", "isHouse", "(I)Z"⟩, prog_11_method_5_code, 2, some (FieldType.boolean), [], 9)
def M_Mo_limitsOf : Mt := (⟨"FriendBackupModel", "limitsOf", "(I)I"⟩, prog_11_method_11_code, 4, some (FieldType.int), [], 9)
def M_Mo_up : Mt := (⟨"FriendBackupModel", "up", "(IZ)Z"⟩, prog_11_method_13_code, 4, some (FieldType.boolean), [], 9)
def M_Mo_write : Mt := (⟨"FriendBackupModel", "write", "(III)I"⟩, prog_11_method_14_code, 6, some (FieldType.int), [], 9)
def M_Mo_file : Mt := (⟨"FriendBackupModel", "file", "(IIZ)Z"⟩, prog_11_method_15_code, 5, some (FieldType.boolean), [], 9)
def M_Mo_seal : Mt := (⟨"FriendBackupModel", "seal", "(I)I"⟩, prog_11_method_20_code, 10, some (FieldType.int), [], 9)
def M_Mo_freeSlot : Mt := (⟨"FriendBackupModel", "freeSlot", "(I)I"⟩, prog_11_method_19_code, 4, some (FieldType.int), [], 9)
def M_Mo_chunkEnd : Mt := (⟨"FriendBackupModel", "chunkEnd", "(II)I"⟩, prog_11_method_16_code, 5, some (FieldType.int), [], 9)
def M_Mo_findChunk : Mt := (⟨"FriendBackupModel", "findChunk", "(IIIII)I"⟩, prog_11_method_18_code, 8, some (FieldType.int), [], 9)
def M_Mo_findIn : Mt := (⟨"FriendBackupModel", "findIn", "(IIII)I"⟩, prog_11_method_17_code, 9, some (FieldType.int), [], 9)
def M_Mo_put : Mt := (⟨"FriendBackupModel", "put", "(IIII)I"⟩, prog_11_method_21_code, 7, some (FieldType.int), [], 9)
def M_Mo_push : Mt := (⟨"FriendBackupModel", "push", "(I)I"⟩, prog_11_method_39_code, 4, some (FieldType.int), [], 9)
def M_Mo_placeAll : Mt := (⟨"FriendBackupModel", "placeAll", "(II)I"⟩, prog_11_method_38_code, 5, some (FieldType.int), [], 9)
def M_Mo_place : Mt := (⟨"FriendBackupModel", "place", "(III)Z"⟩, prog_11_method_36_code, 8, some (FieldType.boolean), [], 9)
def M_Mo_hasOf : Mt := (⟨"FriendBackupModel", "hasOf", "(II)Z"⟩, prog_11_method_35_code, 5, some (FieldType.boolean), [], 9)
def M_Mo_keeps : Mt := (⟨"FriendBackupModel", "keeps", "(I)I"⟩, prog_11_method_34_code, 4, some (FieldType.int), [], 9)
def M_Mo_length : Mt := (⟨"FriendBackupModel", "length", "()I"⟩, prog_11_method_25_code, 1, some (FieldType.int), [], 9)
def M_Mo_makePiece : Mt := (⟨"FriendBackupModel", "makePiece", "([III)V"⟩, prog_11_method_26_code, 8, none, [], 9)
def M_Mo_coefficient : Mt := (⟨"FriendBackupModel", "coefficient", "(II)I"⟩, prog_11_method_24_code, 2, some (FieldType.int), [], 9)
def M_Mo_inverse : Mt := (⟨"FriendBackupModel", "inverse", "(I)I"⟩, prog_11_method_23_code, 2, some (FieldType.int), [], 9)
def M_Mo_product : Mt := (⟨"FriendBackupModel", "product", "(II)I"⟩, prog_11_method_22_code, 4, some (FieldType.int), [], 9)
def M_Mo_answer : Mt := (⟨"FriendBackupModel", "answer", "([IIII)I"⟩, prog_11_method_33_code, 7, some (FieldType.int), [], 9)
def M_Mo_loseDisk : Mt := (⟨"FriendBackupModel", "loseDisk", "(I)V"⟩, prog_11_method_40_code, 3, none, [], 9)
def M_Mo_lose : Mt := (⟨"FriendBackupModel", "lose", "(II)V"⟩, prog_11_method_37_code, 3, none, [], 9)
def M_Mo_harm : Mt := (⟨"FriendBackupModel", "harm", "(IIIII)Z"⟩, prog_11_method_41_code, 9, some (FieldType.boolean), [], 9)
def M_Mo_isSegment : Mt := (⟨"FriendBackupModel", "isSegment", "(II)Z"⟩, prog_11_method_6_code, 3, some (FieldType.boolean), [], 9)
def M_Mo_recover : Mt := (⟨"FriendBackupModel", "recover", "(I)Z"⟩, prog_11_method_42_code, 4, some (FieldType.boolean), [], 9)
def M_Mo_isReachable : Mt := (⟨"FriendBackupModel", "isReachable", "(I)Z"⟩, prog_11_method_27_code, 2, some (FieldType.boolean), [], 9)
def M_Mo_sample : Mt := (⟨"FriendBackupModel", "sample", "(III)I"⟩, prog_11_method_43_code, 6, some (FieldType.int), [], 9)
def M_Mo_isPiece : Mt := (⟨"FriendBackupModel", "isPiece", "(III)Z"⟩, prog_11_method_7_code, 4, some (FieldType.boolean), [], 9)
def M_Mo_audit : Mt := (⟨"FriendBackupModel", "audit", "(I)I"⟩, prog_11_method_45_code, 7, some (FieldType.int), [], 9)
def M_Mo_isRight : Mt := (⟨"FriendBackupModel", "isRight", "([III)Z"⟩, prog_11_method_44_code, 6, some (FieldType.boolean), [], 9)
def M_Mo_repair : Mt := (⟨"FriendBackupModel", "repair", "(I)I"⟩, prog_11_method_46_code, 4, some (FieldType.int), [], 9)
def M_Mo_repairOne : Mt := (⟨"FriendBackupModel", "repairOne", "(II)I"⟩, prog_11_method_47_code, 4, some (FieldType.int), [], 9)
def M_Mo_reachable : Mt := (⟨"FriendBackupModel", "reachable", "(I)I"⟩, prog_11_method_28_code, 4, some (FieldType.int), [], 9)
def M_Mo_solve : Mt := (⟨"FriendBackupModel", "solve", "(I)V"⟩, prog_11_method_29_code, 8, none, [], 9)
def M_Mo_swap : Mt := (⟨"FriendBackupModel", "swap", "(III)V"⟩, prog_11_method_30_code, 6, none, [], 9)
def M_Mo_scale : Mt := (⟨"FriendBackupModel", "scale", "(III)V"⟩, prog_11_method_31_code, 5, none, [], 9)
def M_Mo_subtract : Mt := (⟨"FriendBackupModel", "subtract", "(IIII)V"⟩, prog_11_method_32_code, 6, none, [], 9)
def M_Mo_restore : Mt := (⟨"FriendBackupModel", "restore", "(III)I"⟩, prog_11_method_48_code, 11, some (FieldType.int), [], 9)
def M_Mo_slotOf : Mt := (⟨"FriendBackupModel", "slotOf", "(II)I"⟩, prog_11_method_8_code, 5, some (FieldType.int), [], 9)
def M_Mo_restored : Mt := (⟨"FriendBackupModel", "restored", "(I)I"⟩, prog_11_method_49_code, 2, some (FieldType.int), [], 9)
def M_Mo_forget : Mt := (⟨"FriendBackupModel", "forget", "(II)I"⟩, prog_11_method_52_code, 7, some (FieldType.int), [], 9)
def M_Mo_isUsed : Mt := (⟨"FriendBackupModel", "isUsed", "(II)Z"⟩, prog_11_method_50_code, 7, some (FieldType.boolean), [], 9)
def M_Mo_chunksOf : Mt := (⟨"FriendBackupModel", "chunksOf", "(I)I"⟩, prog_11_method_51_code, 4, some (FieldType.int), [], 9)
def M_Mo_health : Mt := (⟨"FriendBackupModel", "health", "(II)I"⟩, prog_11_method_53_code, 6, some (FieldType.int), [], 9)
def M_Mo_keeper : Mt := (⟨"FriendBackupModel", "keeper", "(III)I"⟩, prog_11_method_54_code, 4, some (FieldType.int), [], 9)
def M_Mo_count : Mt := (⟨"FriendBackupModel", "count", "(II)I"⟩, prog_11_method_56_code, 5, some (FieldType.int), [], 9)
def M_Mo_chunks : Mt := (⟨"FriendBackupModel", "chunks", "(I)I"⟩, prog_11_method_55_code, 8, some (FieldType.int), [], 9)
def M_Mo_stored : Mt := (⟨"FriendBackupModel", "stored", "(II)I"⟩, prog_11_method_57_code, 3, some (FieldType.int), [], 9)
def M_Mo_settle : Mt := (⟨"FriendBackupModel", "settle", "(I)V"⟩, prog_11_method_58_code, 3, none, [], 9)
def M_Mo_balance : Mt := (⟨"FriendBackupModel", "balance", "(II)I"⟩, prog_11_method_59_code, 3, some (FieldType.int), [], 9)
/-- own class, entry, class, field; the name that it is linked by, its word's place, the place of the word that it is the same field (0: not needed) -/
def rFt_0 : List (Nat × Nat × Nat × Nat × String × Nat × Nat) := [(4, 9, 4, 0, "FriendBackup$Field", 101, 0), (4, 15, 4, 1, "FriendBackup$Field", 102, 0), (2, 12, 2, 0, "FriendBackup$Coder", 119, 0), (2, 20, 2, 1, "FriendBackup$Coder", 120, 0), (2, 23, 2, 2, "FriendBackup$Coder", 121, 0), (2, 34, 2, 3, "FriendBackup$Coder", 122, 0), (0, 229, 2, 3, "FriendBackup$Coder", 123, 0), (7, 22, 2, 4, "FriendBackup$Coder", 124, 0), (2, 38, 2, 4, "FriendBackup$Coder", 125, 0), (7, 34, 2, 5, "FriendBackup$Coder", 126, 0), (2, 41, 2, 5, "FriendBackup$Coder", 127, 0), (0, 170, 2, 5, "FriendBackup$Coder", 128, 0), (2, 48, 2, 6, "FriendBackup$Coder", 129, 0), (3, 11, 3, 0, "FriendBackup$Draft", 153, 0), (8, 27, 3, 0, "FriendBackup$Draft", 154, 0), (3, 17, 3, 1, "FriendBackup$Draft", 155, 0), (8, 28, 3, 1, "FriendBackup$Draft", 156, 0), (8, 15, 3, 2, "FriendBackup$Draft", 157, 0), (3, 21, 3, 2, "FriendBackup$Draft", 158, 0), (3, 36, 3, 3, "FriendBackup$Draft", 159, 0), (0, 119, 3, 3, "FriendBackup$Draft", 160, 0), (3, 39, 3, 4, "FriendBackup$Draft", 161, 0), (0, 11, 0, 0, "FriendBackup", 173, 0), (0, 18, 0, 1, "FriendBackup", 174, 0), (0, 25, 0, 2, "FriendBackup", 175, 0), (0, 29, 0, 3, "FriendBackup", 176, 0), (0, 33, 0, 4, "FriendBackup", 177, 0), (0, 36, 0, 5, "FriendBackup", 178, 0), (0, 258, 0, 6, "FriendBackup", 179, 0), (0, 47, 0, 7, "FriendBackup", 180, 0), (0, 293, 0, 8, "FriendBackup", 181, 0), (10, 9, 10, 0, "java/util/ArrayList", 328, 0), (10, 48, 10, 1, "java/util/ArrayList", 329, 0), (12, 7, 10, 2, "java/util/AbstractList", 330, 0), (10, 63, 10, 2, "java/util/ArrayList", 331, 332), (5, 46, 5, 0, "FriendBackup$House", 340, 0), (0, 290, 5, 0, "FriendBackup$House", 341, 0), (5, 50, 5, 1, "FriendBackup$House", 342, 0), (5, 9, 5, 2, "FriendBackup$House", 343, 0), (0, 68, 5, 2, "FriendBackup$House", 344, 0)]
def rFt_1 : List (Nat × Nat × Nat × Nat × String × Nat × Nat) := [(5, 15, 5, 3, "FriendBackup$House", 345, 0), (0, 160, 5, 3, "FriendBackup$House", 346, 0), (5, 18, 5, 4, "FriendBackup$House", 347, 0), (0, 299, 5, 4, "FriendBackup$House", 348, 0), (5, 23, 5, 5, "FriendBackup$House", 349, 0), (3, 42, 5, 5, "FriendBackup$House", 350, 0), (0, 87, 5, 5, "FriendBackup$House", 351, 0), (5, 26, 5, 6, "FriendBackup$House", 352, 0), (3, 46, 5, 6, "FriendBackup$House", 353, 0), (0, 78, 5, 6, "FriendBackup$House", 354, 0), (5, 32, 5, 7, "FriendBackup$House", 355, 0), (3, 68, 5, 7, "FriendBackup$House", 356, 0), (0, 108, 5, 7, "FriendBackup$House", 357, 0), (5, 36, 5, 8, "FriendBackup$House", 358, 0), (3, 25, 5, 8, "FriendBackup$House", 359, 0), (0, 141, 5, 8, "FriendBackup$House", 360, 0), (5, 39, 5, 9, "FriendBackup$House", 361, 0), (0, 94, 5, 9, "FriendBackup$House", 362, 0), (0, 104, 5, 10, "FriendBackup$House", 363, 0), (5, 102, 5, 10, "FriendBackup$House", 364, 0), (5, 42, 5, 11, "FriendBackup$House", 365, 0), (0, 138, 5, 11, "FriendBackup$House", 366, 0), (5, 53, 5, 12, "FriendBackup$House", 367, 0), (0, 75, 5, 12, "FriendBackup$House", 368, 0), (0, 189, 5, 13, "FriendBackup$House", 369, 0), (1, 7, 1, 0, "FriendBackup$Chunk", 497, 0), (7, 40, 1, 0, "FriendBackup$Chunk", 498, 0), (0, 357, 1, 0, "FriendBackup$Chunk", 499, 0), (1, 19, 1, 1, "FriendBackup$Chunk", 500, 0), (5, 88, 1, 1, "FriendBackup$Chunk", 501, 0), (0, 351, 1, 1, "FriendBackup$Chunk", 502, 0), (1, 23, 1, 2, "FriendBackup$Chunk", 503, 0), (7, 45, 1, 2, "FriendBackup$Chunk", 504, 0), (0, 354, 1, 2, "FriendBackup$Chunk", 505, 0), (5, 99, 1, 3, "FriendBackup$Chunk", 506, 0), (6, 19, 6, 0, "FriendBackup$Piece", 602, 0), (0, 186, 6, 0, "FriendBackup$Piece", 603, 0), (6, 9, 6, 1, "FriendBackup$Piece", 604, 0), (0, 216, 6, 1, "FriendBackup$Piece", 605, 0), (6, 15, 6, 2, "FriendBackup$Piece", 606, 0)]
def rFt_2 : List (Nat × Nat × Nat × Nat × String × Nat × Nat) := [(7, 57, 6, 2, "FriendBackup$Piece", 607, 0), (0, 206, 6, 2, "FriendBackup$Piece", 608, 0), (0, 181, 6, 3, "FriendBackup$Piece", 609, 0), (5, 118, 6, 3, "FriendBackup$Piece", 610, 0), (0, 203, 6, 4, "FriendBackup$Piece", 611, 0), (7, 9, 7, 0, "FriendBackup$Segment", 623, 0), (0, 274, 7, 0, "FriendBackup$Segment", 624, 0), (7, 15, 7, 1, "FriendBackup$Segment", 625, 0), (0, 232, 7, 1, "FriendBackup$Segment", 626, 0), (7, 30, 7, 2, "FriendBackup$Segment", 627, 0), (0, 177, 7, 2, "FriendBackup$Segment", 628, 0), (5, 114, 7, 2, "FriendBackup$Segment", 629, 0), (7, 18, 7, 3, "FriendBackup$Segment", 630, 0), (5, 69, 7, 3, "FriendBackup$Segment", 631, 0), (0, 150, 7, 3, "FriendBackup$Segment", 632, 0), (5, 66, 7, 4, "FriendBackup$Segment", 633, 0), (0, 222, 7, 4, "FriendBackup$Segment", 634, 0), (7, 54, 7, 5, "FriendBackup$Segment", 635, 0), (5, 105, 7, 5, "FriendBackup$Segment", 636, 0), (0, 264, 7, 5, "FriendBackup$Segment", 637, 0), (8, 23, 8, 0, "FriendBackup$Snapshot", 676, 0), (5, 94, 8, 0, "FriendBackup$Snapshot", 677, 0), (0, 348, 8, 0, "FriendBackup$Snapshot", 678, 0), (8, 37, 8, 1, "FriendBackup$Snapshot", 679, 0), (0, 345, 8, 1, "FriendBackup$Snapshot", 680, 0), (8, 9, 8, 2, "FriendBackup$Snapshot", 681, 0), (0, 247, 8, 2, "FriendBackup$Snapshot", 682, 0), (5, 107, 8, 3, "FriendBackup$Snapshot", 683, 0), (0, 308, 8, 3, "FriendBackup$Snapshot", 684, 0), (9, 113, 9, 0, "FriendBackupModel", 971, 0), (9, 245, 9, 1, "FriendBackupModel", 972, 0), (9, 7, 9, 2, "FriendBackupModel", 973, 0), (9, 13, 9, 3, "FriendBackupModel", 974, 0), (9, 128, 9, 4, "FriendBackupModel", 975, 0), (9, 16, 9, 5, "FriendBackupModel", 976, 0), (9, 20, 9, 6, "FriendBackupModel", 977, 0), (9, 24, 9, 7, "FriendBackupModel", 978, 0), (9, 27, 9, 8, "FriendBackupModel", 979, 0), (9, 30, 9, 9, "FriendBackupModel", 980, 0), (9, 33, 9, 10, "FriendBackupModel", 981, 0)]
def rFt_3 : List (Nat × Nat × Nat × Nat × String × Nat × Nat) := [(9, 36, 9, 11, "FriendBackupModel", 982, 0), (9, 39, 9, 12, "FriendBackupModel", 983, 0), (9, 42, 9, 13, "FriendBackupModel", 984, 0), (9, 45, 9, 14, "FriendBackupModel", 985, 0), (9, 48, 9, 15, "FriendBackupModel", 986, 0), (9, 51, 9, 16, "FriendBackupModel", 987, 0), (9, 54, 9, 17, "FriendBackupModel", 988, 0), (9, 57, 9, 18, "FriendBackupModel", 989, 0), (9, 60, 9, 19, "FriendBackupModel", 990, 0), (9, 63, 9, 20, "FriendBackupModel", 991, 0), (9, 66, 9, 21, "FriendBackupModel", 992, 0), (9, 69, 9, 22, "FriendBackupModel", 993, 0), (9, 72, 9, 23, "FriendBackupModel", 994, 0), (9, 75, 9, 24, "FriendBackupModel", 995, 0), (9, 78, 9, 25, "FriendBackupModel", 996, 0), (9, 81, 9, 26, "FriendBackupModel", 997, 0), (9, 85, 9, 27, "FriendBackupModel", 998, 0), (9, 88, 9, 28, "FriendBackupModel", 999, 0), (9, 92, 9, 29, "FriendBackupModel", 1000, 0), (9, 146, 9, 30, "FriendBackupModel", 1001, 0), (9, 95, 9, 31, "FriendBackupModel", 1002, 0), (9, 98, 9, 32, "FriendBackupModel", 1003, 0), (9, 101, 9, 33, "FriendBackupModel", 1004, 0), (9, 104, 9, 34, "FriendBackupModel", 1005, 0), (9, 233, 9, 35, "FriendBackupModel", 1006, 0), (9, 107, 9, 36, "FriendBackupModel", 1007, 0), (9, 110, 9, 37, "FriendBackupModel", 1008, 0)]
def rFt : List (Nat × Nat × Nat × Nat × String × Nat × Nat) := rFt_0 ++ rFt_1 ++ rFt_2 ++ rFt_3
def rF (o idx : Nat) : Option (Nat × Nat) := (rFt.find? (fun e => e.1 == o && e.2.1 == idx)).map (fun e => (e.2.2.1, e.2.2.2.1))
def rFc (e : Nat × Nat × Nat × Nat × String × Nat × Nat) : Bool := match clT[e.2.2.1]? with
  | some (_, T, N) => decide (e.2.2.2.1 < N) && decide (lw_tbl[e.2.2.2.2.2.1]? = some (Cond.fieldLink (oN e.1) e.2.1 e.2.2.2.2.1 (T e.2.2.2.1).2.1 (T e.2.2.2.1).2.2.1)) && (decide ((T e.2.2.2.1).1 = e.2.2.2.2.1) || decide (lw_tbl[e.2.2.2.2.2.2]? = some (Cond.sameField e.2.2.2.2.1 (T e.2.2.2.1).1 (T e.2.2.2.1).2.1 (T e.2.2.2.1).2.2.1)))
  | none => false
theorem rFt_0_ok : rFt_0.all rFc = true := by decide +kernel
theorem rFt_1_ok : rFt_1.all rFc = true := by decide +kernel
theorem rFt_2_ok : rFt_2.all rFc = true := by decide +kernel
theorem rFt_3_ok : rFt_3.all rFc = true := by decide +kernel
theorem rFt_ok : ∀ e ∈ rFt, rFc e = true := by
  intro e he
  unfold rFt at he
  rcases List.mem_append.mp he with he | he
  rotate_left
  · exact List.all_eq_true.mp rFt_3_ok e he
  rcases List.mem_append.mp he with he | he
  rotate_left
  · exact List.all_eq_true.mp rFt_2_ok e he
  rcases List.mem_append.mp he with he | he
  rotate_left
  · exact List.all_eq_true.mp rFt_1_ok e he
  exact List.all_eq_true.mp rFt_0_ok e he
theorem rF_FV {o idx ci k : Nat} (h : rF o idx = some (ci, k)) : FV (oN o) idx ci k := by
  unfold rF at h
  obtain ⟨e, he, hek⟩ := Option.map_eq_some_iff.mp h
  have hm := List.mem_of_find?_eq_some he
  have hp := List.find?_some he
  simp only [Bool.and_eq_true, beq_iff_eq] at hp
  have hc := rFt_ok e hm
  obtain ⟨e1, e2, e3, e4, e5, e6, e7⟩ := e
  simp only [Prod.mk.injEq] at hek hp
  obtain ⟨rfl, rfl⟩ := hek
  obtain ⟨rfl, rfl⟩ := hp
  unfold rFc at hc
  dsimp only at hc
  split at hc
  · rename_i C T N hcl
    simp only [Bool.and_eq_true, Bool.or_eq_true, decide_eq_true_eq] at hc
    obtain ⟨⟨h1, h2⟩, h3⟩ := hc
    refine ⟨C, T, N, e5, hcl, h1, List.mem_of_getElem? h2, ?_⟩
    rcases h3 with h3 | h3
    · exact Or.inl h3
    · exact Or.inr (List.mem_of_getElem? h3)
  · cases hc
