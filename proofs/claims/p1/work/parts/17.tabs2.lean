/-! ===== methods: their words ===== -/
/-- a method, the places of the words: its code, its class initialised, static or instance, selected (instance alone) -/
def mT_0 : List (Mt × Nat × Nat × Nat × Nat × Nat) := [(M_FB_init, 83, 55, 2, 82, 0), (M_Coder_init, 93, 56, 2, 92, 0), (M_Field_init, 99, 57, 2, 98, 0), (M_Field_inverse, 114, 57, 1, 112, 113), (M_Coder_use, 118, 56, 1, 116, 117), (M_Draft_init, 149, 58, 2, 148, 0), (M_FB_restored, 204, 55, 1, 202, 203), (M_FB_isWithin, 207, 55, 0, 206, 0), (M_La_code, 210, 54, 0, 209, 0), (M_FB_code, 216, 55, 1, 214, 215), (M_FB_requireArgument, 219, 55, 0, 218, 0), (M_FB_requireState, 284, 55, 0, 283, 0), (M_La_house, 303, 54, 0, 302, 0), (M_FB_house, 307, 55, 1, 305, 306), (M_House_init, 311, 65, 2, 310, 0), (M_AL_init, 318, 68, 2, 317, 0), (M_AbL_init, 321, 67, 2, 320, 0), (M_AbC_init, 324, 66, 2, 323, 0), (M_La_contract, 401, 54, 0, 400, 0), (M_FB_contract, 405, 55, 1, 403, 404), (M_FB_houseOf, 409, 55, 1, 408, 1), (M_House_canAgree, 413, 65, 1, 411, 412), (M_La_write, 416, 54, 0, 415, 0), (M_FB_write, 420, 55, 1, 418, 419)]
def mT_1 : List (Mt × Nat × Nat × Nat × Nat × Nat) := [(M_FB_isTag, 423, 55, 0, 422, 0), (M_La_file, 429, 54, 0, 428, 0), (M_FB_file, 433, 55, 1, 431, 432), (M_House_hasFile, 437, 65, 1, 435, 436), (M_La_seal, 440, 54, 0, 439, 0), (M_FB_seal, 444, 55, 1, 442, 443), (M_AL_size, 448, 68, 1, 446, 447), (M_Draft_lay, 452, 58, 1, 450, 451), (M_Draft_cut, 457, 58, 1, 456, 2), (M_Draft_isCutBehind, 460, 58, 0, 459, 0), (M_Draft_add, 464, 58, 1, 463, 3), (M_House_findChunk, 468, 65, 1, 466, 467), (M_AL_get, 473, 68, 1, 471, 472), (M_Ob_checkIndex, 476, 70, 0, 475, 0), (M_Pr_checkIndex, 479, 71, 0, 478, 0), (M_AL_elementData, 483, 68, 1, 481, 482), (M_Chunk_isSame, 488, 72, 1, 486, 487), (M_Chunk_init, 492, 72, 2, 491, 0), (M_AL_add, 519, 68, 1, 517, 518), (M_AL_add_2, 523, 68, 1, 522, 4), (M_AL_grow, 527, 68, 1, 526, 5), (M_AL_grow_2, 531, 68, 1, 530, 6), (M_AS_newLength, 534, 74, 0, 533, 0), (M_AS_hugeLength, 539, 74, 0, 538, 0)]
def mT_2 : List (Mt × Nat × Nat × Nat × Nat × Nat) := [(M_Ar_copyOf, 542, 75, 0, 541, 0), (M_Ar_copyOf_2, 562, 75, 0, 561, 0), (M_House_dropChunksFrom, 575, 65, 1, 573, 574), (M_AL_remove, 579, 68, 1, 577, 578), (M_AL_fastRemove, 583, 68, 1, 582, 7), (M_House_addSegments, 588, 65, 1, 586, 587), (M_Segment_init, 593, 76, 2, 592, 0), (M_Piece_init, 600, 77, 2, 599, 0), (M_House_fillSegments, 655, 65, 1, 653, 654), (M_Segment_add, 659, 76, 1, 657, 658), (M_Snapshot_init, 665, 78, 2, 664, 0), (M_House_addSnapshot, 698, 65, 1, 696, 697), (M_La_push, 701, 54, 0, 700, 0), (M_FB_push, 705, 55, 1, 703, 704), (M_FB_placeMissing, 711, 55, 1, 710, 8), (M_Piece_isPlaced, 715, 77, 1, 713, 714), (M_FB_place, 719, 55, 1, 718, 9), (M_FB_bestKeeper, 723, 55, 1, 722, 10), (M_House_canTakeFrom, 727, 65, 1, 725, 726), (M_Segment_pieceWith, 731, 76, 1, 729, 730), (M_House_countKept, 735, 65, 1, 733, 734), (M_Coder_encode, 739, 56, 1, 737, 738), (M_Field_times, 743, 57, 1, 741, 742), (M_Coder_answerAll, 747, 56, 1, 745, 746)]
def mT_3 : List (Mt × Nat × Nat × Nat × Nat × Nat) := [(M_Coder_answer, 751, 56, 1, 749, 750), (M_La_up, 755, 54, 0, 754, 0), (M_FB_up, 759, 55, 1, 757, 758), (M_La_loseDisk, 762, 54, 0, 761, 0), (M_FB_loseDisk, 766, 55, 1, 764, 765), (M_House_losePiecesWith, 770, 65, 1, 768, 769), (M_House_loseOwn, 775, 65, 1, 773, 774), (M_La_harm, 778, 54, 0, 777, 0), (M_FB_harm, 782, 55, 1, 780, 781), (M_FB_segmentOf, 785, 55, 0, 784, 0), (M_La_recover, 788, 54, 0, 787, 0), (M_FB_recover, 792, 55, 1, 790, 791), (M_FB_hasReachable, 796, 55, 1, 795, 11), (M_FB_countReachable, 800, 55, 1, 799, 12), (M_FB_isReachable, 804, 55, 1, 803, 13), (M_FB_isUp, 808, 55, 1, 807, 14), (M_La_sample, 811, 54, 0, 810, 0), (M_FB_sample, 815, 55, 1, 813, 814), (M_FB_pieceOf, 818, 55, 0, 817, 0), (M_La_audit, 822, 54, 0, 821, 0), (M_FB_audit, 826, 55, 1, 824, 825), (M_FB_auditSegment, 830, 55, 1, 829, 15), (M_FB_isPieceOf, 834, 55, 1, 833, 16), (M_FB_takeBack, 838, 55, 1, 837, 17)]
def mT_4 : List (Mt × Nat × Nat × Nat × Nat × Nat) := [(M_La_repair, 841, 54, 0, 840, 0), (M_FB_repair, 845, 55, 1, 843, 844), (M_FB_solve, 849, 55, 1, 848, 18), (M_Coder_beginSolving, 853, 56, 1, 851, 852), (M_Coder_take, 857, 56, 1, 855, 856), (M_Coder_solveInto, 862, 56, 1, 860, 861), (M_Coder_scale, 866, 56, 1, 865, 19), (M_Coder_clearColumn, 870, 56, 1, 869, 20), (M_FB_unplaceMissing, 874, 55, 1, 873, 21), (M_La_restore, 877, 54, 0, 876, 0), (M_FB_restore, 881, 55, 1, 879, 880), (M_FB_snapshotOf, 884, 55, 0, 883, 0), (M_FB_canRestore, 888, 55, 1, 887, 22), (M_FB_restoreFile, 892, 55, 1, 891, 23), (M_La_forget, 896, 54, 0, 895, 0), (M_FB_forget, 900, 55, 1, 898, 899), (M_House_dropSnapshot, 904, 65, 1, 902, 903), (M_FB_free, 908, 55, 1, 907, 24), (M_La_health, 911, 54, 0, 910, 0), (M_FB_health, 915, 55, 1, 913, 914), (M_La_keeper, 918, 54, 0, 917, 0), (M_FB_keeper, 922, 55, 1, 920, 921), (M_La_count, 925, 54, 0, 924, 0), (M_FB_count, 929, 55, 1, 927, 928)]
def mT_5 : List (Mt × Nat × Nat × Nat × Nat × Nat) := [(M_House_countUnfreed, 933, 65, 1, 931, 932), (M_House_countHeld, 937, 65, 1, 935, 936), (M_La_stored, 940, 54, 0, 939, 0), (M_FB_stored, 944, 55, 1, 942, 943), (M_La_settle, 947, 54, 0, 946, 0), (M_FB_settle, 951, 55, 1, 949, 950), (M_House_addDays, 955, 65, 1, 953, 954), (M_La_balance, 958, 54, 0, 957, 0), (M_FB_balance, 962, 55, 1, 960, 961), (M_Mo_init, 967, 59, 2, 966, 0), (M_Mo_thrown, 1089, 59, 1, 1087, 1088), (M_Mo_code, 1093, 59, 1, 1091, 1092), (M_Mo_isIn, 1096, 59, 0, 1095, 0), (M_Mo_refused, 1100, 59, 1, 1099, 25), (M_Mo_house, 1104, 59, 1, 1102, 1103), (M_Mo_contract, 1108, 59, 1, 1106, 1107), (M_Mo_isHouse, 1112, 59, 1, 1111, 26), (M_Mo_limitsOf, 1116, 59, 1, 1115, 27), (M_Mo_up, 1120, 59, 1, 1118, 1119), (M_Mo_write, 1124, 59, 1, 1122, 1123), (M_Mo_file, 1128, 59, 1, 1126, 1127), (M_Mo_seal, 1132, 59, 1, 1130, 1131), (M_Mo_freeSlot, 1136, 59, 1, 1135, 28), (M_Mo_chunkEnd, 1140, 59, 1, 1139, 29)]
def mT_6 : List (Mt × Nat × Nat × Nat × Nat × Nat) := [(M_Mo_findChunk, 1144, 59, 1, 1143, 30), (M_Mo_findIn, 1148, 59, 1, 1147, 31), (M_Mo_put, 1152, 59, 1, 1151, 32), (M_Mo_push, 1156, 59, 1, 1154, 1155), (M_Mo_placeAll, 1160, 59, 1, 1159, 33), (M_Mo_place, 1164, 59, 1, 1163, 34), (M_Mo_hasOf, 1168, 59, 1, 1167, 35), (M_Mo_keeps, 1172, 59, 1, 1171, 36), (M_Mo_length, 1176, 59, 1, 1175, 37), (M_Mo_makePiece, 1180, 59, 1, 1179, 38), (M_Mo_coefficient, 1183, 59, 0, 1182, 0), (M_Mo_inverse, 1186, 59, 0, 1185, 0), (M_Mo_product, 1189, 59, 0, 1188, 0), (M_Mo_answer, 1192, 59, 0, 1191, 0), (M_Mo_loseDisk, 1197, 59, 1, 1195, 1196), (M_Mo_lose, 1201, 59, 1, 1200, 39), (M_Mo_harm, 1205, 59, 1, 1203, 1204), (M_Mo_isSegment, 1209, 59, 1, 1208, 40), (M_Mo_recover, 1213, 59, 1, 1211, 1212), (M_Mo_isReachable, 1217, 59, 1, 1216, 41), (M_Mo_sample, 1221, 59, 1, 1219, 1220), (M_Mo_isPiece, 1225, 59, 1, 1224, 42), (M_Mo_audit, 1229, 59, 1, 1227, 1228), (M_Mo_isRight, 1233, 59, 1, 1232, 43)]
def mT_7 : List (Mt × Nat × Nat × Nat × Nat × Nat) := [(M_Mo_repair, 1237, 59, 1, 1235, 1236), (M_Mo_repairOne, 1241, 59, 1, 1240, 44), (M_Mo_reachable, 1245, 59, 1, 1244, 45), (M_Mo_solve, 1249, 59, 1, 1248, 46), (M_Mo_swap, 1253, 59, 1, 1252, 47), (M_Mo_scale, 1257, 59, 1, 1256, 48), (M_Mo_subtract, 1261, 59, 1, 1260, 49), (M_Mo_restore, 1265, 59, 1, 1263, 1264), (M_Mo_slotOf, 1269, 59, 1, 1268, 50), (M_Mo_restored, 1273, 59, 1, 1271, 1272), (M_Mo_forget, 1277, 59, 1, 1275, 1276), (M_Mo_isUsed, 1281, 59, 1, 1280, 51), (M_Mo_chunksOf, 1285, 59, 1, 1284, 52), (M_Mo_health, 1289, 59, 1, 1287, 1288), (M_Mo_keeper, 1293, 59, 1, 1291, 1292), (M_Mo_count, 1297, 59, 1, 1295, 1296), (M_Mo_chunks, 1301, 59, 1, 1300, 53), (M_Mo_stored, 1305, 59, 1, 1303, 1304), (M_Mo_settle, 1309, 59, 1, 1307, 1308), (M_Mo_balance, 1313, 59, 1, 1311, 1312)]
def mT : List (Mt × Nat × Nat × Nat × Nat × Nat) := mT_0 ++ mT_1 ++ mT_2 ++ mT_3 ++ mT_4 ++ mT_5 ++ mT_6 ++ mT_7
def clN (ci : Nat) : String := ((clT[ci]?).map (fun q => q.1)).getD ""
def mTc (e : Mt × Nat × Nat × Nat × Nat × Nat) : Bool := plainName e.1.1.cls && decide (e.1.1.cls ≠ "java/lang/invoke/MethodHandle") && decide (e.1.1.cls ≠ "java/lang/invoke/VarHandle") && goodWord (codeW e.1) && decide (lw_tbl[e.2.2.1]? = some (Cond.initialized e.1.1.cls)) && decide (oN e.1.2.2.2.2.2 = e.1.1.cls) &&
  (if e.2.2.2.1 = 0 then decide (lw_tbl[e.2.2.2.2.1]? = some (Cond.static e.1.1)) else decide (lw_tbl[e.2.2.2.2.1]? = some (Cond.instanceMethod e.1.1)) && (if e.2.2.2.1 = 1 then decide (lw_tbl[e.2.2.2.2.2]? = some (Cond.selects e.1.1.cls e.1.1 e.1.1)) && decide (clN e.1.2.2.2.2.2 = e.1.1.cls) && decide (e.1.2.2.2.2.2 < 11) else decide (e.1.1.name = "<init>") && decide (e.1.2.2.2.1 = none) && decide (e.1.2.2.2.2.1 = [])))
theorem mT_0_ok : mT_0.all mTc = true := by decide +kernel
theorem mT_1_ok : mT_1.all mTc = true := by decide +kernel
theorem mT_2_ok : mT_2.all mTc = true := by decide +kernel
theorem mT_3_ok : mT_3.all mTc = true := by decide +kernel
theorem mT_4_ok : mT_4.all mTc = true := by decide +kernel
theorem mT_5_ok : mT_5.all mTc = true := by decide +kernel
theorem mT_6_ok : mT_6.all mTc = true := by decide +kernel
theorem mT_7_ok : mT_7.all mTc = true := by decide +kernel
set_option maxRecDepth 100000 in
theorem mc_0 : lw_tbl[83]? = some (codeW M_FB_init) := by rfl
set_option maxRecDepth 100000 in
theorem mc_1 : lw_tbl[93]? = some (codeW M_Coder_init) := by rfl
set_option maxRecDepth 100000 in
theorem mc_2 : lw_tbl[99]? = some (codeW M_Field_init) := by rfl
set_option maxRecDepth 100000 in
theorem mc_3 : lw_tbl[114]? = some (codeW M_Field_inverse) := by rfl
set_option maxRecDepth 100000 in
theorem mc_4 : lw_tbl[118]? = some (codeW M_Coder_use) := by rfl
set_option maxRecDepth 100000 in
theorem mc_5 : lw_tbl[149]? = some (codeW M_Draft_init) := by rfl
set_option maxRecDepth 100000 in
theorem mc_6 : lw_tbl[204]? = some (codeW M_FB_restored) := by rfl
set_option maxRecDepth 100000 in
theorem mc_7 : lw_tbl[207]? = some (codeW M_FB_isWithin) := by rfl
set_option maxRecDepth 100000 in
theorem mc_8 : lw_tbl[210]? = some (codeW M_La_code) := by rfl
set_option maxRecDepth 100000 in
theorem mc_9 : lw_tbl[216]? = some (codeW M_FB_code) := by rfl
set_option maxRecDepth 100000 in
theorem mc_10 : lw_tbl[219]? = some (codeW M_FB_requireArgument) := by rfl
set_option maxRecDepth 100000 in
theorem mc_11 : lw_tbl[284]? = some (codeW M_FB_requireState) := by rfl
set_option maxRecDepth 100000 in
theorem mc_12 : lw_tbl[303]? = some (codeW M_La_house) := by rfl
set_option maxRecDepth 100000 in
theorem mc_13 : lw_tbl[307]? = some (codeW M_FB_house) := by rfl
set_option maxRecDepth 100000 in
theorem mc_14 : lw_tbl[311]? = some (codeW M_House_init) := by rfl
set_option maxRecDepth 100000 in
theorem mc_15 : lw_tbl[318]? = some (codeW M_AL_init) := by rfl
set_option maxRecDepth 100000 in
theorem mc_16 : lw_tbl[321]? = some (codeW M_AbL_init) := by rfl
set_option maxRecDepth 100000 in
theorem mc_17 : lw_tbl[324]? = some (codeW M_AbC_init) := by rfl
set_option maxRecDepth 100000 in
theorem mc_18 : lw_tbl[401]? = some (codeW M_La_contract) := by rfl
set_option maxRecDepth 100000 in
theorem mc_19 : lw_tbl[405]? = some (codeW M_FB_contract) := by rfl
set_option maxRecDepth 100000 in
theorem mc_20 : lw_tbl[409]? = some (codeW M_FB_houseOf) := by rfl
set_option maxRecDepth 100000 in
theorem mc_21 : lw_tbl[413]? = some (codeW M_House_canAgree) := by rfl
set_option maxRecDepth 100000 in
theorem mc_22 : lw_tbl[416]? = some (codeW M_La_write) := by rfl
set_option maxRecDepth 100000 in
theorem mc_23 : lw_tbl[420]? = some (codeW M_FB_write) := by rfl
set_option maxRecDepth 100000 in
theorem mc_24 : lw_tbl[423]? = some (codeW M_FB_isTag) := by rfl
set_option maxRecDepth 100000 in
theorem mc_25 : lw_tbl[429]? = some (codeW M_La_file) := by rfl
set_option maxRecDepth 100000 in
theorem mc_26 : lw_tbl[433]? = some (codeW M_FB_file) := by rfl
set_option maxRecDepth 100000 in
theorem mc_27 : lw_tbl[437]? = some (codeW M_House_hasFile) := by rfl
set_option maxRecDepth 100000 in
theorem mc_28 : lw_tbl[440]? = some (codeW M_La_seal) := by rfl
set_option maxRecDepth 100000 in
theorem mc_29 : lw_tbl[444]? = some (codeW M_FB_seal) := by rfl
set_option maxRecDepth 100000 in
theorem mc_30 : lw_tbl[448]? = some (codeW M_AL_size) := by rfl
set_option maxRecDepth 100000 in
theorem mc_31 : lw_tbl[452]? = some (codeW M_Draft_lay) := by rfl
set_option maxRecDepth 100000 in
theorem mc_32 : lw_tbl[457]? = some (codeW M_Draft_cut) := by rfl
set_option maxRecDepth 100000 in
theorem mc_33 : lw_tbl[460]? = some (codeW M_Draft_isCutBehind) := by rfl
set_option maxRecDepth 100000 in
theorem mc_34 : lw_tbl[464]? = some (codeW M_Draft_add) := by rfl
set_option maxRecDepth 100000 in
theorem mc_35 : lw_tbl[468]? = some (codeW M_House_findChunk) := by rfl
set_option maxRecDepth 100000 in
theorem mc_36 : lw_tbl[473]? = some (codeW M_AL_get) := by rfl
set_option maxRecDepth 100000 in
theorem mc_37 : lw_tbl[476]? = some (codeW M_Ob_checkIndex) := by rfl
set_option maxRecDepth 100000 in
theorem mc_38 : lw_tbl[479]? = some (codeW M_Pr_checkIndex) := by rfl
set_option maxRecDepth 100000 in
theorem mc_39 : lw_tbl[483]? = some (codeW M_AL_elementData) := by rfl
set_option maxRecDepth 100000 in
theorem mc_40 : lw_tbl[488]? = some (codeW M_Chunk_isSame) := by rfl
set_option maxRecDepth 100000 in
theorem mc_41 : lw_tbl[492]? = some (codeW M_Chunk_init) := by rfl
set_option maxRecDepth 100000 in
theorem mc_42 : lw_tbl[519]? = some (codeW M_AL_add) := by rfl
set_option maxRecDepth 100000 in
theorem mc_43 : lw_tbl[523]? = some (codeW M_AL_add_2) := by rfl
set_option maxRecDepth 100000 in
theorem mc_44 : lw_tbl[527]? = some (codeW M_AL_grow) := by rfl
set_option maxRecDepth 100000 in
theorem mc_45 : lw_tbl[531]? = some (codeW M_AL_grow_2) := by rfl
set_option maxRecDepth 100000 in
theorem mc_46 : lw_tbl[534]? = some (codeW M_AS_newLength) := by rfl
set_option maxRecDepth 100000 in
theorem mc_47 : lw_tbl[539]? = some (codeW M_AS_hugeLength) := by rfl
set_option maxRecDepth 100000 in
theorem mc_48 : lw_tbl[542]? = some (codeW M_Ar_copyOf) := by rfl
set_option maxRecDepth 100000 in
theorem mc_49 : lw_tbl[562]? = some (codeW M_Ar_copyOf_2) := by rfl
set_option maxRecDepth 100000 in
theorem mc_50 : lw_tbl[575]? = some (codeW M_House_dropChunksFrom) := by rfl
set_option maxRecDepth 100000 in
theorem mc_51 : lw_tbl[579]? = some (codeW M_AL_remove) := by rfl
set_option maxRecDepth 100000 in
theorem mc_52 : lw_tbl[583]? = some (codeW M_AL_fastRemove) := by rfl
set_option maxRecDepth 100000 in
theorem mc_53 : lw_tbl[588]? = some (codeW M_House_addSegments) := by rfl
set_option maxRecDepth 100000 in
theorem mc_54 : lw_tbl[593]? = some (codeW M_Segment_init) := by rfl
set_option maxRecDepth 100000 in
theorem mc_55 : lw_tbl[600]? = some (codeW M_Piece_init) := by rfl
set_option maxRecDepth 100000 in
theorem mc_56 : lw_tbl[655]? = some (codeW M_House_fillSegments) := by rfl
set_option maxRecDepth 100000 in
theorem mc_57 : lw_tbl[659]? = some (codeW M_Segment_add) := by rfl
set_option maxRecDepth 100000 in
theorem mc_58 : lw_tbl[665]? = some (codeW M_Snapshot_init) := by rfl
set_option maxRecDepth 100000 in
theorem mc_59 : lw_tbl[698]? = some (codeW M_House_addSnapshot) := by rfl
set_option maxRecDepth 100000 in
theorem mc_60 : lw_tbl[701]? = some (codeW M_La_push) := by rfl
set_option maxRecDepth 100000 in
theorem mc_61 : lw_tbl[705]? = some (codeW M_FB_push) := by rfl
set_option maxRecDepth 100000 in
theorem mc_62 : lw_tbl[711]? = some (codeW M_FB_placeMissing) := by rfl
set_option maxRecDepth 100000 in
theorem mc_63 : lw_tbl[715]? = some (codeW M_Piece_isPlaced) := by rfl
set_option maxRecDepth 100000 in
theorem mc_64 : lw_tbl[719]? = some (codeW M_FB_place) := by rfl
set_option maxRecDepth 100000 in
theorem mc_65 : lw_tbl[723]? = some (codeW M_FB_bestKeeper) := by rfl
set_option maxRecDepth 100000 in
theorem mc_66 : lw_tbl[727]? = some (codeW M_House_canTakeFrom) := by rfl
set_option maxRecDepth 100000 in
theorem mc_67 : lw_tbl[731]? = some (codeW M_Segment_pieceWith) := by rfl
set_option maxRecDepth 100000 in
theorem mc_68 : lw_tbl[735]? = some (codeW M_House_countKept) := by rfl
set_option maxRecDepth 100000 in
theorem mc_69 : lw_tbl[739]? = some (codeW M_Coder_encode) := by rfl
set_option maxRecDepth 100000 in
theorem mc_70 : lw_tbl[743]? = some (codeW M_Field_times) := by rfl
set_option maxRecDepth 100000 in
theorem mc_71 : lw_tbl[747]? = some (codeW M_Coder_answerAll) := by rfl
set_option maxRecDepth 100000 in
theorem mc_72 : lw_tbl[751]? = some (codeW M_Coder_answer) := by rfl
set_option maxRecDepth 100000 in
theorem mc_73 : lw_tbl[755]? = some (codeW M_La_up) := by rfl
set_option maxRecDepth 100000 in
theorem mc_74 : lw_tbl[759]? = some (codeW M_FB_up) := by rfl
set_option maxRecDepth 100000 in
theorem mc_75 : lw_tbl[762]? = some (codeW M_La_loseDisk) := by rfl
set_option maxRecDepth 100000 in
theorem mc_76 : lw_tbl[766]? = some (codeW M_FB_loseDisk) := by rfl
set_option maxRecDepth 100000 in
theorem mc_77 : lw_tbl[770]? = some (codeW M_House_losePiecesWith) := by rfl
set_option maxRecDepth 100000 in
theorem mc_78 : lw_tbl[775]? = some (codeW M_House_loseOwn) := by rfl
set_option maxRecDepth 100000 in
theorem mc_79 : lw_tbl[778]? = some (codeW M_La_harm) := by rfl
set_option maxRecDepth 100000 in
theorem mc_80 : lw_tbl[782]? = some (codeW M_FB_harm) := by rfl
set_option maxRecDepth 100000 in
theorem mc_81 : lw_tbl[785]? = some (codeW M_FB_segmentOf) := by rfl
set_option maxRecDepth 100000 in
theorem mc_82 : lw_tbl[788]? = some (codeW M_La_recover) := by rfl
set_option maxRecDepth 100000 in
theorem mc_83 : lw_tbl[792]? = some (codeW M_FB_recover) := by rfl
set_option maxRecDepth 100000 in
theorem mc_84 : lw_tbl[796]? = some (codeW M_FB_hasReachable) := by rfl
set_option maxRecDepth 100000 in
theorem mc_85 : lw_tbl[800]? = some (codeW M_FB_countReachable) := by rfl
set_option maxRecDepth 100000 in
theorem mc_86 : lw_tbl[804]? = some (codeW M_FB_isReachable) := by rfl
set_option maxRecDepth 100000 in
theorem mc_87 : lw_tbl[808]? = some (codeW M_FB_isUp) := by rfl
set_option maxRecDepth 100000 in
theorem mc_88 : lw_tbl[811]? = some (codeW M_La_sample) := by rfl
set_option maxRecDepth 100000 in
theorem mc_89 : lw_tbl[815]? = some (codeW M_FB_sample) := by rfl
set_option maxRecDepth 100000 in
theorem mc_90 : lw_tbl[818]? = some (codeW M_FB_pieceOf) := by rfl
set_option maxRecDepth 100000 in
theorem mc_91 : lw_tbl[822]? = some (codeW M_La_audit) := by rfl
set_option maxRecDepth 100000 in
theorem mc_92 : lw_tbl[826]? = some (codeW M_FB_audit) := by rfl
set_option maxRecDepth 100000 in
theorem mc_93 : lw_tbl[830]? = some (codeW M_FB_auditSegment) := by rfl
set_option maxRecDepth 100000 in
theorem mc_94 : lw_tbl[834]? = some (codeW M_FB_isPieceOf) := by rfl
set_option maxRecDepth 100000 in
theorem mc_95 : lw_tbl[838]? = some (codeW M_FB_takeBack) := by rfl
set_option maxRecDepth 100000 in
theorem mc_96 : lw_tbl[841]? = some (codeW M_La_repair) := by rfl
set_option maxRecDepth 100000 in
theorem mc_97 : lw_tbl[845]? = some (codeW M_FB_repair) := by rfl
set_option maxRecDepth 100000 in
theorem mc_98 : lw_tbl[849]? = some (codeW M_FB_solve) := by rfl
set_option maxRecDepth 100000 in
theorem mc_99 : lw_tbl[853]? = some (codeW M_Coder_beginSolving) := by rfl
set_option maxRecDepth 100000 in
theorem mc_100 : lw_tbl[857]? = some (codeW M_Coder_take) := by rfl
set_option maxRecDepth 100000 in
theorem mc_101 : lw_tbl[862]? = some (codeW M_Coder_solveInto) := by rfl
set_option maxRecDepth 100000 in
theorem mc_102 : lw_tbl[866]? = some (codeW M_Coder_scale) := by rfl
set_option maxRecDepth 100000 in
theorem mc_103 : lw_tbl[870]? = some (codeW M_Coder_clearColumn) := by rfl
set_option maxRecDepth 100000 in
theorem mc_104 : lw_tbl[874]? = some (codeW M_FB_unplaceMissing) := by rfl
set_option maxRecDepth 100000 in
theorem mc_105 : lw_tbl[877]? = some (codeW M_La_restore) := by rfl
set_option maxRecDepth 100000 in
theorem mc_106 : lw_tbl[881]? = some (codeW M_FB_restore) := by rfl
set_option maxRecDepth 100000 in
theorem mc_107 : lw_tbl[884]? = some (codeW M_FB_snapshotOf) := by rfl
set_option maxRecDepth 100000 in
theorem mc_108 : lw_tbl[888]? = some (codeW M_FB_canRestore) := by rfl
set_option maxRecDepth 100000 in
theorem mc_109 : lw_tbl[892]? = some (codeW M_FB_restoreFile) := by rfl
set_option maxRecDepth 100000 in
theorem mc_110 : lw_tbl[896]? = some (codeW M_La_forget) := by rfl
set_option maxRecDepth 100000 in
theorem mc_111 : lw_tbl[900]? = some (codeW M_FB_forget) := by rfl
set_option maxRecDepth 100000 in
theorem mc_112 : lw_tbl[904]? = some (codeW M_House_dropSnapshot) := by rfl
set_option maxRecDepth 100000 in
theorem mc_113 : lw_tbl[908]? = some (codeW M_FB_free) := by rfl
set_option maxRecDepth 100000 in
theorem mc_114 : lw_tbl[911]? = some (codeW M_La_health) := by rfl
set_option maxRecDepth 100000 in
theorem mc_115 : lw_tbl[915]? = some (codeW M_FB_health) := by rfl
set_option maxRecDepth 100000 in
theorem mc_116 : lw_tbl[918]? = some (codeW M_La_keeper) := by rfl
set_option maxRecDepth 100000 in
theorem mc_117 : lw_tbl[922]? = some (codeW M_FB_keeper) := by rfl
set_option maxRecDepth 100000 in
theorem mc_118 : lw_tbl[925]? = some (codeW M_La_count) := by rfl
set_option maxRecDepth 100000 in
theorem mc_119 : lw_tbl[929]? = some (codeW M_FB_count) := by rfl
set_option maxRecDepth 100000 in
theorem mc_120 : lw_tbl[933]? = some (codeW M_House_countUnfreed) := by rfl
set_option maxRecDepth 100000 in
theorem mc_121 : lw_tbl[937]? = some (codeW M_House_countHeld) := by rfl
set_option maxRecDepth 100000 in
theorem mc_122 : lw_tbl[940]? = some (codeW M_La_stored) := by rfl
set_option maxRecDepth 100000 in
theorem mc_123 : lw_tbl[944]? = some (codeW M_FB_stored) := by rfl
set_option maxRecDepth 100000 in
theorem mc_124 : lw_tbl[947]? = some (codeW M_La_settle) := by rfl
set_option maxRecDepth 100000 in
theorem mc_125 : lw_tbl[951]? = some (codeW M_FB_settle) := by rfl
set_option maxRecDepth 100000 in
theorem mc_126 : lw_tbl[955]? = some (codeW M_House_addDays) := by rfl
set_option maxRecDepth 100000 in
theorem mc_127 : lw_tbl[958]? = some (codeW M_La_balance) := by rfl
set_option maxRecDepth 100000 in
theorem mc_128 : lw_tbl[962]? = some (codeW M_FB_balance) := by rfl
set_option maxRecDepth 100000 in
theorem mc_129 : lw_tbl[967]? = some (codeW M_Mo_init) := by rfl
set_option maxRecDepth 100000 in
theorem mc_130 : lw_tbl[1089]? = some (codeW M_Mo_thrown) := by rfl
set_option maxRecDepth 100000 in
theorem mc_131 : lw_tbl[1093]? = some (codeW M_Mo_code) := by rfl
set_option maxRecDepth 100000 in
theorem mc_132 : lw_tbl[1096]? = some (codeW M_Mo_isIn) := by rfl
set_option maxRecDepth 100000 in
theorem mc_133 : lw_tbl[1100]? = some (codeW M_Mo_refused) := by rfl
set_option maxRecDepth 100000 in
theorem mc_134 : lw_tbl[1104]? = some (codeW M_Mo_house) := by rfl
set_option maxRecDepth 100000 in
theorem mc_135 : lw_tbl[1108]? = some (codeW M_Mo_contract) := by rfl
set_option maxRecDepth 100000 in
theorem mc_136 : lw_tbl[1112]? = some (codeW M_Mo_isHouse) := by rfl
set_option maxRecDepth 100000 in
theorem mc_137 : lw_tbl[1116]? = some (codeW M_Mo_limitsOf) := by rfl
set_option maxRecDepth 100000 in
theorem mc_138 : lw_tbl[1120]? = some (codeW M_Mo_up) := by rfl
set_option maxRecDepth 100000 in
theorem mc_139 : lw_tbl[1124]? = some (codeW M_Mo_write) := by rfl
set_option maxRecDepth 100000 in
theorem mc_140 : lw_tbl[1128]? = some (codeW M_Mo_file) := by rfl
set_option maxRecDepth 100000 in
theorem mc_141 : lw_tbl[1132]? = some (codeW M_Mo_seal) := by rfl
set_option maxRecDepth 100000 in
theorem mc_142 : lw_tbl[1136]? = some (codeW M_Mo_freeSlot) := by rfl
set_option maxRecDepth 100000 in
theorem mc_143 : lw_tbl[1140]? = some (codeW M_Mo_chunkEnd) := by rfl
set_option maxRecDepth 100000 in
theorem mc_144 : lw_tbl[1144]? = some (codeW M_Mo_findChunk) := by rfl
set_option maxRecDepth 100000 in
theorem mc_145 : lw_tbl[1148]? = some (codeW M_Mo_findIn) := by rfl
set_option maxRecDepth 100000 in
theorem mc_146 : lw_tbl[1152]? = some (codeW M_Mo_put) := by rfl
set_option maxRecDepth 100000 in
theorem mc_147 : lw_tbl[1156]? = some (codeW M_Mo_push) := by rfl
set_option maxRecDepth 100000 in
theorem mc_148 : lw_tbl[1160]? = some (codeW M_Mo_placeAll) := by rfl
set_option maxRecDepth 100000 in
theorem mc_149 : lw_tbl[1164]? = some (codeW M_Mo_place) := by rfl
set_option maxRecDepth 100000 in
theorem mc_150 : lw_tbl[1168]? = some (codeW M_Mo_hasOf) := by rfl
set_option maxRecDepth 100000 in
theorem mc_151 : lw_tbl[1172]? = some (codeW M_Mo_keeps) := by rfl
set_option maxRecDepth 100000 in
theorem mc_152 : lw_tbl[1176]? = some (codeW M_Mo_length) := by rfl
set_option maxRecDepth 100000 in
theorem mc_153 : lw_tbl[1180]? = some (codeW M_Mo_makePiece) := by rfl
set_option maxRecDepth 100000 in
theorem mc_154 : lw_tbl[1183]? = some (codeW M_Mo_coefficient) := by rfl
set_option maxRecDepth 100000 in
theorem mc_155 : lw_tbl[1186]? = some (codeW M_Mo_inverse) := by rfl
set_option maxRecDepth 100000 in
theorem mc_156 : lw_tbl[1189]? = some (codeW M_Mo_product) := by rfl
set_option maxRecDepth 100000 in
theorem mc_157 : lw_tbl[1192]? = some (codeW M_Mo_answer) := by rfl
set_option maxRecDepth 100000 in
theorem mc_158 : lw_tbl[1197]? = some (codeW M_Mo_loseDisk) := by rfl
set_option maxRecDepth 100000 in
theorem mc_159 : lw_tbl[1201]? = some (codeW M_Mo_lose) := by rfl
set_option maxRecDepth 100000 in
theorem mc_160 : lw_tbl[1205]? = some (codeW M_Mo_harm) := by rfl
set_option maxRecDepth 100000 in
theorem mc_161 : lw_tbl[1209]? = some (codeW M_Mo_isSegment) := by rfl
set_option maxRecDepth 100000 in
theorem mc_162 : lw_tbl[1213]? = some (codeW M_Mo_recover) := by rfl
set_option maxRecDepth 100000 in
theorem mc_163 : lw_tbl[1217]? = some (codeW M_Mo_isReachable) := by rfl
set_option maxRecDepth 100000 in
theorem mc_164 : lw_tbl[1221]? = some (codeW M_Mo_sample) := by rfl
set_option maxRecDepth 100000 in
theorem mc_165 : lw_tbl[1225]? = some (codeW M_Mo_isPiece) := by rfl
set_option maxRecDepth 100000 in
theorem mc_166 : lw_tbl[1229]? = some (codeW M_Mo_audit) := by rfl
set_option maxRecDepth 100000 in
theorem mc_167 : lw_tbl[1233]? = some (codeW M_Mo_isRight) := by rfl
set_option maxRecDepth 100000 in
theorem mc_168 : lw_tbl[1237]? = some (codeW M_Mo_repair) := by rfl
set_option maxRecDepth 100000 in
theorem mc_169 : lw_tbl[1241]? = some (codeW M_Mo_repairOne) := by rfl
set_option maxRecDepth 100000 in
theorem mc_170 : lw_tbl[1245]? = some (codeW M_Mo_reachable) := by rfl
set_option maxRecDepth 100000 in
theorem mc_171 : lw_tbl[1249]? = some (codeW M_Mo_solve) := by rfl
set_option maxRecDepth 100000 in
theorem mc_172 : lw_tbl[1253]? = some (codeW M_Mo_swap) := by rfl
set_option maxRecDepth 100000 in
theorem mc_173 : lw_tbl[1257]? = some (codeW M_Mo_scale) := by rfl
set_option maxRecDepth 100000 in
theorem mc_174 : lw_tbl[1261]? = some (codeW M_Mo_subtract) := by rfl
set_option maxRecDepth 100000 in
theorem mc_175 : lw_tbl[1265]? = some (codeW M_Mo_restore) := by rfl
set_option maxRecDepth 100000 in
theorem mc_176 : lw_tbl[1269]? = some (codeW M_Mo_slotOf) := by rfl
set_option maxRecDepth 100000 in
theorem mc_177 : lw_tbl[1273]? = some (codeW M_Mo_restored) := by rfl
set_option maxRecDepth 100000 in
theorem mc_178 : lw_tbl[1277]? = some (codeW M_Mo_forget) := by rfl
set_option maxRecDepth 100000 in
theorem mc_179 : lw_tbl[1281]? = some (codeW M_Mo_isUsed) := by rfl
set_option maxRecDepth 100000 in
theorem mc_180 : lw_tbl[1285]? = some (codeW M_Mo_chunksOf) := by rfl
set_option maxRecDepth 100000 in
theorem mc_181 : lw_tbl[1289]? = some (codeW M_Mo_health) := by rfl
set_option maxRecDepth 100000 in
theorem mc_182 : lw_tbl[1293]? = some (codeW M_Mo_keeper) := by rfl
set_option maxRecDepth 100000 in
theorem mc_183 : lw_tbl[1297]? = some (codeW M_Mo_count) := by rfl
set_option maxRecDepth 100000 in
theorem mc_184 : lw_tbl[1301]? = some (codeW M_Mo_chunks) := by rfl
set_option maxRecDepth 100000 in
theorem mc_185 : lw_tbl[1305]? = some (codeW M_Mo_stored) := by rfl
set_option maxRecDepth 100000 in
theorem mc_186 : lw_tbl[1309]? = some (codeW M_Mo_settle) := by rfl
set_option maxRecDepth 100000 in
theorem mc_187 : lw_tbl[1313]? = some (codeW M_Mo_balance) := by rfl
theorem mcs_0 : ∀ e ∈ mT_0, lw_tbl[e.2.1]? = some (codeW e.1) := List.forall_mem_cons.mpr ⟨mc_0, List.forall_mem_cons.mpr ⟨mc_1, List.forall_mem_cons.mpr ⟨mc_2, List.forall_mem_cons.mpr ⟨mc_3, List.forall_mem_cons.mpr ⟨mc_4, List.forall_mem_cons.mpr ⟨mc_5, List.forall_mem_cons.mpr ⟨mc_6, List.forall_mem_cons.mpr ⟨mc_7, List.forall_mem_cons.mpr ⟨mc_8, List.forall_mem_cons.mpr ⟨mc_9, List.forall_mem_cons.mpr ⟨mc_10, List.forall_mem_cons.mpr ⟨mc_11, List.forall_mem_cons.mpr ⟨mc_12, List.forall_mem_cons.mpr ⟨mc_13, List.forall_mem_cons.mpr ⟨mc_14, List.forall_mem_cons.mpr ⟨mc_15, List.forall_mem_cons.mpr ⟨mc_16, List.forall_mem_cons.mpr ⟨mc_17, List.forall_mem_cons.mpr ⟨mc_18, List.forall_mem_cons.mpr ⟨mc_19, List.forall_mem_cons.mpr ⟨mc_20, List.forall_mem_cons.mpr ⟨mc_21, List.forall_mem_cons.mpr ⟨mc_22, List.forall_mem_cons.mpr ⟨mc_23, fun _ h => absurd h List.not_mem_nil⟩⟩⟩⟩⟩⟩⟩⟩⟩⟩⟩⟩⟩⟩⟩⟩⟩⟩⟩⟩⟩⟩⟩⟩
theorem mcs_1 : ∀ e ∈ mT_1, lw_tbl[e.2.1]? = some (codeW e.1) := List.forall_mem_cons.mpr ⟨mc_24, List.forall_mem_cons.mpr ⟨mc_25, List.forall_mem_cons.mpr ⟨mc_26, List.forall_mem_cons.mpr ⟨mc_27, List.forall_mem_cons.mpr ⟨mc_28, List.forall_mem_cons.mpr ⟨mc_29, List.forall_mem_cons.mpr ⟨mc_30, List.forall_mem_cons.mpr ⟨mc_31, List.forall_mem_cons.mpr ⟨mc_32, List.forall_mem_cons.mpr ⟨mc_33, List.forall_mem_cons.mpr ⟨mc_34, List.forall_mem_cons.mpr ⟨mc_35, List.forall_mem_cons.mpr ⟨mc_36, List.forall_mem_cons.mpr ⟨mc_37, List.forall_mem_cons.mpr ⟨mc_38, List.forall_mem_cons.mpr ⟨mc_39, List.forall_mem_cons.mpr ⟨mc_40, List.forall_mem_cons.mpr ⟨mc_41, List.forall_mem_cons.mpr ⟨mc_42, List.forall_mem_cons.mpr ⟨mc_43, List.forall_mem_cons.mpr ⟨mc_44, List.forall_mem_cons.mpr ⟨mc_45, List.forall_mem_cons.mpr ⟨mc_46, List.forall_mem_cons.mpr ⟨mc_47, fun _ h => absurd h List.not_mem_nil⟩⟩⟩⟩⟩⟩⟩⟩⟩⟩⟩⟩⟩⟩⟩⟩⟩⟩⟩⟩⟩⟩⟩⟩
theorem mcs_2 : ∀ e ∈ mT_2, lw_tbl[e.2.1]? = some (codeW e.1) := List.forall_mem_cons.mpr ⟨mc_48, List.forall_mem_cons.mpr ⟨mc_49, List.forall_mem_cons.mpr ⟨mc_50, List.forall_mem_cons.mpr ⟨mc_51, List.forall_mem_cons.mpr ⟨mc_52, List.forall_mem_cons.mpr ⟨mc_53, List.forall_mem_cons.mpr ⟨mc_54, List.forall_mem_cons.mpr ⟨mc_55, List.forall_mem_cons.mpr ⟨mc_56, List.forall_mem_cons.mpr ⟨mc_57, List.forall_mem_cons.mpr ⟨mc_58, List.forall_mem_cons.mpr ⟨mc_59, List.forall_mem_cons.mpr ⟨mc_60, List.forall_mem_cons.mpr ⟨mc_61, List.forall_mem_cons.mpr ⟨mc_62, List.forall_mem_cons.mpr ⟨mc_63, List.forall_mem_cons.mpr ⟨mc_64, List.forall_mem_cons.mpr ⟨mc_65, List.forall_mem_cons.mpr ⟨mc_66, List.forall_mem_cons.mpr ⟨mc_67, List.forall_mem_cons.mpr ⟨mc_68, List.forall_mem_cons.mpr ⟨mc_69, List.forall_mem_cons.mpr ⟨mc_70, List.forall_mem_cons.mpr ⟨mc_71, fun _ h => absurd h List.not_mem_nil⟩⟩⟩⟩⟩⟩⟩⟩⟩⟩⟩⟩⟩⟩⟩⟩⟩⟩⟩⟩⟩⟩⟩⟩
theorem mcs_3 : ∀ e ∈ mT_3, lw_tbl[e.2.1]? = some (codeW e.1) := List.forall_mem_cons.mpr ⟨mc_72, List.forall_mem_cons.mpr ⟨mc_73, List.forall_mem_cons.mpr ⟨mc_74, List.forall_mem_cons.mpr ⟨mc_75, List.forall_mem_cons.mpr ⟨mc_76, List.forall_mem_cons.mpr ⟨mc_77, List.forall_mem_cons.mpr ⟨mc_78, List.forall_mem_cons.mpr ⟨mc_79, List.forall_mem_cons.mpr ⟨mc_80, List.forall_mem_cons.mpr ⟨mc_81, List.forall_mem_cons.mpr ⟨mc_82, List.forall_mem_cons.mpr ⟨mc_83, List.forall_mem_cons.mpr ⟨mc_84, List.forall_mem_cons.mpr ⟨mc_85, List.forall_mem_cons.mpr ⟨mc_86, List.forall_mem_cons.mpr ⟨mc_87, List.forall_mem_cons.mpr ⟨mc_88, List.forall_mem_cons.mpr ⟨mc_89, List.forall_mem_cons.mpr ⟨mc_90, List.forall_mem_cons.mpr ⟨mc_91, List.forall_mem_cons.mpr ⟨mc_92, List.forall_mem_cons.mpr ⟨mc_93, List.forall_mem_cons.mpr ⟨mc_94, List.forall_mem_cons.mpr ⟨mc_95, fun _ h => absurd h List.not_mem_nil⟩⟩⟩⟩⟩⟩⟩⟩⟩⟩⟩⟩⟩⟩⟩⟩⟩⟩⟩⟩⟩⟩⟩⟩
theorem mcs_4 : ∀ e ∈ mT_4, lw_tbl[e.2.1]? = some (codeW e.1) := List.forall_mem_cons.mpr ⟨mc_96, List.forall_mem_cons.mpr ⟨mc_97, List.forall_mem_cons.mpr ⟨mc_98, List.forall_mem_cons.mpr ⟨mc_99, List.forall_mem_cons.mpr ⟨mc_100, List.forall_mem_cons.mpr ⟨mc_101, List.forall_mem_cons.mpr ⟨mc_102, List.forall_mem_cons.mpr ⟨mc_103, List.forall_mem_cons.mpr ⟨mc_104, List.forall_mem_cons.mpr ⟨mc_105, List.forall_mem_cons.mpr ⟨mc_106, List.forall_mem_cons.mpr ⟨mc_107, List.forall_mem_cons.mpr ⟨mc_108, List.forall_mem_cons.mpr ⟨mc_109, List.forall_mem_cons.mpr ⟨mc_110, List.forall_mem_cons.mpr ⟨mc_111, List.forall_mem_cons.mpr ⟨mc_112, List.forall_mem_cons.mpr ⟨mc_113, List.forall_mem_cons.mpr ⟨mc_114, List.forall_mem_cons.mpr ⟨mc_115, List.forall_mem_cons.mpr ⟨mc_116, List.forall_mem_cons.mpr ⟨mc_117, List.forall_mem_cons.mpr ⟨mc_118, List.forall_mem_cons.mpr ⟨mc_119, fun _ h => absurd h List.not_mem_nil⟩⟩⟩⟩⟩⟩⟩⟩⟩⟩⟩⟩⟩⟩⟩⟩⟩⟩⟩⟩⟩⟩⟩⟩
theorem mcs_5 : ∀ e ∈ mT_5, lw_tbl[e.2.1]? = some (codeW e.1) := List.forall_mem_cons.mpr ⟨mc_120, List.forall_mem_cons.mpr ⟨mc_121, List.forall_mem_cons.mpr ⟨mc_122, List.forall_mem_cons.mpr ⟨mc_123, List.forall_mem_cons.mpr ⟨mc_124, List.forall_mem_cons.mpr ⟨mc_125, List.forall_mem_cons.mpr ⟨mc_126, List.forall_mem_cons.mpr ⟨mc_127, List.forall_mem_cons.mpr ⟨mc_128, List.forall_mem_cons.mpr ⟨mc_129, List.forall_mem_cons.mpr ⟨mc_130, List.forall_mem_cons.mpr ⟨mc_131, List.forall_mem_cons.mpr ⟨mc_132, List.forall_mem_cons.mpr ⟨mc_133, List.forall_mem_cons.mpr ⟨mc_134, List.forall_mem_cons.mpr ⟨mc_135, List.forall_mem_cons.mpr ⟨mc_136, List.forall_mem_cons.mpr ⟨mc_137, List.forall_mem_cons.mpr ⟨mc_138, List.forall_mem_cons.mpr ⟨mc_139, List.forall_mem_cons.mpr ⟨mc_140, List.forall_mem_cons.mpr ⟨mc_141, List.forall_mem_cons.mpr ⟨mc_142, List.forall_mem_cons.mpr ⟨mc_143, fun _ h => absurd h List.not_mem_nil⟩⟩⟩⟩⟩⟩⟩⟩⟩⟩⟩⟩⟩⟩⟩⟩⟩⟩⟩⟩⟩⟩⟩⟩
theorem mcs_6 : ∀ e ∈ mT_6, lw_tbl[e.2.1]? = some (codeW e.1) := List.forall_mem_cons.mpr ⟨mc_144, List.forall_mem_cons.mpr ⟨mc_145, List.forall_mem_cons.mpr ⟨mc_146, List.forall_mem_cons.mpr ⟨mc_147, List.forall_mem_cons.mpr ⟨mc_148, List.forall_mem_cons.mpr ⟨mc_149, List.forall_mem_cons.mpr ⟨mc_150, List.forall_mem_cons.mpr ⟨mc_151, List.forall_mem_cons.mpr ⟨mc_152, List.forall_mem_cons.mpr ⟨mc_153, List.forall_mem_cons.mpr ⟨mc_154, List.forall_mem_cons.mpr ⟨mc_155, List.forall_mem_cons.mpr ⟨mc_156, List.forall_mem_cons.mpr ⟨mc_157, List.forall_mem_cons.mpr ⟨mc_158, List.forall_mem_cons.mpr ⟨mc_159, List.forall_mem_cons.mpr ⟨mc_160, List.forall_mem_cons.mpr ⟨mc_161, List.forall_mem_cons.mpr ⟨mc_162, List.forall_mem_cons.mpr ⟨mc_163, List.forall_mem_cons.mpr ⟨mc_164, List.forall_mem_cons.mpr ⟨mc_165, List.forall_mem_cons.mpr ⟨mc_166, List.forall_mem_cons.mpr ⟨mc_167, fun _ h => absurd h List.not_mem_nil⟩⟩⟩⟩⟩⟩⟩⟩⟩⟩⟩⟩⟩⟩⟩⟩⟩⟩⟩⟩⟩⟩⟩⟩
theorem mcs_7 : ∀ e ∈ mT_7, lw_tbl[e.2.1]? = some (codeW e.1) := List.forall_mem_cons.mpr ⟨mc_168, List.forall_mem_cons.mpr ⟨mc_169, List.forall_mem_cons.mpr ⟨mc_170, List.forall_mem_cons.mpr ⟨mc_171, List.forall_mem_cons.mpr ⟨mc_172, List.forall_mem_cons.mpr ⟨mc_173, List.forall_mem_cons.mpr ⟨mc_174, List.forall_mem_cons.mpr ⟨mc_175, List.forall_mem_cons.mpr ⟨mc_176, List.forall_mem_cons.mpr ⟨mc_177, List.forall_mem_cons.mpr ⟨mc_178, List.forall_mem_cons.mpr ⟨mc_179, List.forall_mem_cons.mpr ⟨mc_180, List.forall_mem_cons.mpr ⟨mc_181, List.forall_mem_cons.mpr ⟨mc_182, List.forall_mem_cons.mpr ⟨mc_183, List.forall_mem_cons.mpr ⟨mc_184, List.forall_mem_cons.mpr ⟨mc_185, List.forall_mem_cons.mpr ⟨mc_186, List.forall_mem_cons.mpr ⟨mc_187, fun _ h => absurd h List.not_mem_nil⟩⟩⟩⟩⟩⟩⟩⟩⟩⟩⟩⟩⟩⟩⟩⟩⟩⟩⟩⟩
theorem mC_ok : ∀ e ∈ mT, lw_tbl[e.2.1]? = some (codeW e.1) := by
  intro e he
  unfold mT at he
  rcases List.mem_append.mp he with he | he
  rotate_left
  · exact mcs_7 e he
  rcases List.mem_append.mp he with he | he
  rotate_left
  · exact mcs_6 e he
  rcases List.mem_append.mp he with he | he
  rotate_left
  · exact mcs_5 e he
  rcases List.mem_append.mp he with he | he
  rotate_left
  · exact mcs_4 e he
  rcases List.mem_append.mp he with he | he
  rotate_left
  · exact mcs_3 e he
  rcases List.mem_append.mp he with he | he
  rotate_left
  · exact mcs_2 e he
  rcases List.mem_append.mp he with he | he
  rotate_left
  · exact mcs_1 e he
  exact mcs_0 e he
theorem mT_ok : ∀ e ∈ mT, mTc e = true := by
  intro e he
  unfold mT at he
  rcases List.mem_append.mp he with he | he
  rotate_left
  · exact List.all_eq_true.mp mT_7_ok e he
  rcases List.mem_append.mp he with he | he
  rotate_left
  · exact List.all_eq_true.mp mT_6_ok e he
  rcases List.mem_append.mp he with he | he
  rotate_left
  · exact List.all_eq_true.mp mT_5_ok e he
  rcases List.mem_append.mp he with he | he
  rotate_left
  · exact List.all_eq_true.mp mT_4_ok e he
  rcases List.mem_append.mp he with he | he
  rotate_left
  · exact List.all_eq_true.mp mT_3_ok e he
  rcases List.mem_append.mp he with he | he
  rotate_left
  · exact List.all_eq_true.mp mT_2_ok e he
  rcases List.mem_append.mp he with he | he
  rotate_left
  · exact List.all_eq_true.mp mT_1_ok e he
  exact List.all_eq_true.mp mT_0_ok e he
/-- own class, entry, how it is called (0 static, 1 virtual, 2 a constructor, 3 Object's, 4 arraycopy, 5 clone, 6 getClass, 7 max, 8 min), the method's place in mT, the word's place -/
def rMt_0 : List (Nat × Nat × Nat × Nat × Nat) := [(11, 89, 2, 0, 81), (0, 3, 3, 0, 84), (0, 17, 2, 1, 91), (2, 3, 3, 0, 94), (2, 11, 2, 2, 97), (4, 3, 3, 0, 100), (2, 26, 1, 3, 111), (2, 30, 1, 4, 115), (3, 3, 3, 0, 150), (11, 151, 1, 6, 201), (0, 39, 0, 7, 205), (11, 93, 0, 8, 208), (11, 7, 1, 9, 213), (0, 43, 0, 10, 217), (0, 51, 0, 11, 282), (0, 54, 1, 4, 300), (11, 103, 0, 12, 301), (11, 17, 1, 13, 304), (0, 58, 2, 14, 309), (5, 3, 3, 0, 312), (5, 31, 2, 15, 316), (10, 1, 2, 16, 319), (12, 1, 2, 17, 322), (13, 1, 3, 0, 325), (11, 106, 0, 18, 399), (11, 20, 1, 19, 402), (0, 60, 1, 20, 406), (0, 64, 1, 21, 410), (11, 110, 0, 22, 414), (11, 24, 1, 23, 417), (0, 71, 0, 24, 421), (0, 81, 7, 0, 424), (11, 113, 0, 25, 427), (11, 28, 1, 26, 430), (0, 91, 1, 27, 434), (11, 117, 0, 28, 438), (11, 32, 1, 29, 441), (0, 98, 1, 30, 445), (0, 111, 1, 31, 449), (3, 31, 1, 30, 453)]
def rMt_1 : List (Nat × Nat × Nat × Nat × Nat) := [(3, 49, 1, 32, 454), (3, 53, 0, 33, 458), (3, 57, 1, 34, 461), (3, 61, 1, 35, 465), (5, 56, 1, 30, 469), (5, 60, 1, 36, 470), (10, 118, 0, 37, 474), (16, 105, 0, 38, 477), (10, 123, 1, 39, 480), (5, 74, 1, 40, 485), (3, 65, 2, 41, 490), (1, 1, 3, 0, 493), (1, 13, 4, 0, 494), (3, 70, 1, 42, 516), (10, 131, 1, 43, 520), (10, 129, 1, 44, 524), (10, 69, 1, 45, 528), (10, 73, 0, 46, 532), (17, 194, 7, 0, 535), (17, 201, 0, 47, 537), (10, 66, 0, 48, 540), (15, 86, 6, 0, 543), (15, 300, 0, 49, 560), (15, 304, 8, 0, 566), (15, 150, 4, 0, 569), (10, 79, 7, 0, 570), (0, 115, 1, 50, 572), (5, 78, 1, 51, 576), (10, 144, 1, 52, 580), (10, 112, 4, 0, 584), (0, 122, 1, 53, 585), (5, 81, 2, 54, 591), (7, 3, 3, 0, 594), (7, 37, 2, 55, 598), (6, 3, 3, 0, 601), (5, 84, 1, 42, 651), (0, 126, 1, 56, 652), (5, 91, 1, 57, 656), (7, 48, 4, 0, 660), (0, 131, 2, 58, 663)]
def rMt_2 : List (Nat × Nat × Nat × Nat × Nat) := [(8, 3, 3, 0, 666), (8, 32, 5, 0, 668), (8, 38, 1, 27, 675), (0, 134, 1, 59, 695), (11, 121, 0, 60, 699), (11, 36, 1, 61, 702), (0, 144, 1, 36, 706), (0, 153, 1, 62, 708), (0, 199, 1, 63, 712), (0, 315, 1, 64, 716), (0, 319, 1, 65, 720), (0, 327, 1, 66, 724), (0, 173, 1, 67, 728), (0, 287, 1, 68, 732), (0, 311, 1, 69, 736), (2, 44, 1, 70, 740), (0, 323, 1, 71, 744), (2, 65, 1, 72, 748), (11, 124, 0, 73, 753), (11, 39, 1, 74, 756), (11, 128, 0, 75, 760), (11, 43, 1, 76, 763), (0, 157, 1, 77, 767), (5, 110, 1, 67, 771), (0, 163, 1, 78, 772), (11, 132, 0, 79, 776), (11, 47, 1, 80, 779), (0, 166, 0, 81, 783), (11, 136, 0, 82, 786), (11, 51, 1, 83, 789), (0, 192, 1, 84, 793), (0, 225, 1, 85, 797), (0, 270, 1, 86, 801), (0, 209, 1, 87, 805), (11, 139, 0, 88, 809), (11, 55, 1, 89, 812), (0, 195, 0, 90, 816), (0, 212, 1, 72, 819), (11, 142, 0, 91, 820), (11, 58, 1, 92, 823)]
def rMt_3 : List (Nat × Nat × Nat × Nat × Nat) := [(0, 219, 1, 93, 827), (0, 277, 1, 94, 831), (0, 330, 1, 95, 835), (11, 145, 0, 96, 839), (11, 61, 1, 97, 842), (0, 235, 1, 98, 846), (0, 334, 1, 99, 850), (0, 337, 1, 100, 854), (2, 51, 4, 0, 858), (0, 341, 1, 101, 859), (2, 57, 1, 102, 863), (2, 61, 1, 103, 867), (0, 239, 1, 104, 871), (11, 148, 0, 105, 875), (11, 64, 1, 106, 878), (0, 243, 0, 107, 882), (0, 250, 1, 108, 885), (0, 254, 1, 109, 889), (0, 358, 4, 0, 893), (11, 155, 0, 110, 894), (11, 67, 1, 111, 897), (0, 261, 1, 112, 901), (0, 266, 1, 113, 905), (11, 159, 0, 114, 909), (11, 71, 1, 115, 912), (11, 162, 0, 116, 916), (11, 74, 1, 117, 919), (11, 165, 0, 118, 923), (11, 77, 1, 119, 926), (0, 281, 1, 120, 930), (0, 284, 1, 121, 934), (11, 168, 0, 122, 938), (11, 80, 1, 123, 941), (11, 171, 0, 124, 945), (11, 83, 1, 125, 948), (0, 296, 1, 126, 952), (11, 174, 0, 127, 956), (11, 86, 1, 128, 959), (11, 92, 2, 129, 965), (9, 1, 3, 0, 968)]
def rMt_4 : List (Nat × Nat × Nat × Nat × Nat) := [(11, 99, 1, 130, 1086), (11, 98, 1, 131, 1090), (9, 116, 0, 132, 1094), (9, 132, 1, 133, 1097), (11, 105, 1, 134, 1101), (11, 109, 1, 135, 1105), (9, 120, 1, 136, 1109), (9, 135, 1, 137, 1113), (11, 127, 1, 138, 1117), (11, 112, 1, 139, 1121), (11, 116, 1, 140, 1125), (11, 120, 1, 141, 1129), (9, 143, 1, 142, 1133), (9, 149, 1, 143, 1137), (9, 153, 1, 144, 1141), (9, 139, 1, 145, 1145), (9, 157, 1, 146, 1149), (11, 123, 1, 147, 1153), (9, 206, 1, 148, 1157), (9, 203, 1, 149, 1161), (9, 189, 1, 150, 1165), (9, 192, 1, 151, 1169), (9, 166, 1, 152, 1173), (9, 195, 1, 153, 1177), (9, 170, 0, 154, 1181), (9, 163, 0, 155, 1184), (9, 160, 0, 156, 1187), (9, 199, 0, 157, 1190), (11, 131, 1, 158, 1194), (9, 209, 1, 159, 1198), (11, 135, 1, 160, 1202), (9, 124, 1, 161, 1206), (11, 138, 1, 162, 1210), (9, 173, 1, 163, 1214), (11, 141, 1, 164, 1218), (9, 213, 1, 165, 1222), (11, 144, 1, 166, 1226), (9, 216, 1, 167, 1230), (11, 147, 1, 168, 1234), (9, 220, 1, 169, 1238)]
def rMt_5 : List (Nat × Nat × Nat × Nat × Nat) := [(9, 223, 1, 170, 1242), (9, 226, 1, 171, 1246), (9, 176, 1, 172, 1250), (9, 180, 1, 173, 1254), (9, 183, 1, 174, 1258), (11, 150, 1, 175, 1262), (9, 230, 1, 176, 1266), (11, 154, 1, 177, 1270), (11, 158, 1, 178, 1274), (9, 239, 1, 179, 1278), (9, 236, 1, 180, 1282), (11, 161, 1, 181, 1286), (11, 164, 1, 182, 1290), (11, 167, 1, 183, 1294), (9, 242, 1, 184, 1298), (11, 170, 1, 185, 1302), (11, 173, 1, 186, 1306), (11, 176, 1, 187, 1310)]
def rMt : List (Nat × Nat × Nat × Nat × Nat) := rMt_0 ++ rMt_1 ++ rMt_2 ++ rMt_3 ++ rMt_4 ++ rMt_5
def rMm (j : Nat) : Mt := ((mT[j]?).map (fun e => e.1)).getD M_FB_init
def rM (o idx : Nat) : Option (Nat × Mt) := (rMt.find? (fun e => e.1 == o && e.2.1 == idx)).map (fun e => (e.2.2.1, rMm e.2.2.2.1))
def spN : Nat → MethodName
  | 3 => Lib.objectInit
  | 4 => arraycopyName
  | 5 => ⟨"[I", "clone", "()Ljava/lang/Object;"⟩
  | 7 => Lib.Math.max.name
  | 8 => Lib.Math.min.name
  | _ => ⟨"java/lang/Object", "getClass", "()Ljava/lang/Class;"⟩
def rMc (e : Nat × Nat × Nat × Nat × Nat) : Bool := if e.2.2.1 < 3 then (match mT[e.2.2.2.1]? with
    | some f => decide (f.2.2.2.1 = e.2.2.1) && decide (lw_tbl[e.2.2.2.2]? = some (Cond.methodLink (oN e.1) e.2.1 f.1.1))
    | none => false) else decide (lw_tbl[e.2.2.2.2]? = some (Cond.methodLink (oN e.1) e.2.1 (spN e.2.2.1)))
theorem rMt_0_ok : rMt_0.all rMc = true := by decide +kernel
theorem rMt_1_ok : rMt_1.all rMc = true := by decide +kernel
theorem rMt_2_ok : rMt_2.all rMc = true := by decide +kernel
theorem rMt_3_ok : rMt_3.all rMc = true := by decide +kernel
theorem rMt_4_ok : rMt_4.all rMc = true := by decide +kernel
theorem rMt_5_ok : rMt_5.all rMc = true := by decide +kernel
theorem rMt_ok : ∀ e ∈ rMt, rMc e = true := by
  intro e he
  unfold rMt at he
  rcases List.mem_append.mp he with he | he
  rotate_left
  · exact List.all_eq_true.mp rMt_5_ok e he
  rcases List.mem_append.mp he with he | he
  rotate_left
  · exact List.all_eq_true.mp rMt_4_ok e he
  rcases List.mem_append.mp he with he | he
  rotate_left
  · exact List.all_eq_true.mp rMt_3_ok e he
  rcases List.mem_append.mp he with he | he
  rotate_left
  · exact List.all_eq_true.mp rMt_2_ok e he
  rcases List.mem_append.mp he with he | he
  rotate_left
  · exact List.all_eq_true.mp rMt_1_ok e he
  exact List.all_eq_true.mp rMt_0_ok e he
theorem rM_sp {o idx k : Nat} {N : Mt} (h : rM o idx = some (k, N)) (hk : ¬ k < 3) : Cond.methodLink (oN o) idx (spN k) ∈ lw_tbl := by
  unfold rM at h
  obtain ⟨e, he, hek⟩ := Option.map_eq_some_iff.mp h
  have hm := List.mem_of_find?_eq_some he
  have hp := List.find?_some he
  simp only [Bool.and_eq_true, beq_iff_eq] at hp
  have hc := rMt_ok e hm
  obtain ⟨e1, e2, e3, e4, e5⟩ := e
  simp only [Prod.mk.injEq] at hek hp
  obtain ⟨rfl, rfl⟩ := hek
  obtain ⟨rfl, rfl⟩ := hp
  unfold rMc at hc
  dsimp only at hc
  rw [if_neg hk] at hc
  exact List.mem_of_getElem? (of_decide_eq_true hc)
/-- what is known of a method that is called -/
def Kn (own : String) (idx k : Nat) (N : Mt) : Prop := MV N ∧ oN N.2.2.2.2.2 = N.1.cls ∧ Cond.methodLink own idx N.1 ∈ lw_tbl ∧ (k = 0 → Cond.static N.1 ∈ lw_tbl) ∧ (k ≠ 0 → Cond.instanceMethod N.1 ∈ lw_tbl) ∧ (k = 1 → Cond.selects N.1.cls N.1 N.1 ∈ lw_tbl ∧ clN N.2.2.2.2.2 = N.1.cls ∧ N.2.2.2.2.2 < 11) ∧ (k = 2 → N.1.name = "<init>" ∧ N.2.2.2.1 = none ∧ N.2.2.2.2.1 = [])
theorem rM_Kn {o idx k : Nat} {N : Mt} (h : rM o idx = some (k, N)) (hk : k < 3) : Kn (oN o) idx k N := by
  unfold rM at h
  obtain ⟨e, he, hek⟩ := Option.map_eq_some_iff.mp h
  have hm := List.mem_of_find?_eq_some he
  have hp := List.find?_some he
  simp only [Bool.and_eq_true, beq_iff_eq] at hp
  have hc := rMt_ok e hm
  obtain ⟨e1, e2, e3, e4, e5⟩ := e
  simp only [Prod.mk.injEq] at hek hp
  obtain ⟨rfl, rfl⟩ := hek
  obtain ⟨rfl, rfl⟩ := hp
  unfold rMc at hc
  dsimp only at hc
  rw [if_pos hk] at hc
  unfold rMm
  split at hc
  · rename_i f hf
    rw [hf]
    simp only [Bool.and_eq_true, decide_eq_true_eq] at hc
    obtain ⟨rfl, h2⟩ := hc
    have hmt := mT_ok f (List.mem_of_getElem? hf)
    unfold mTc at hmt
    simp only [Bool.and_eq_true, decide_eq_true_eq] at hmt
    obtain ⟨⟨⟨⟨⟨⟨a1, a2⟩, a3⟩, a5⟩, a6⟩, a7⟩, a8⟩ := hmt
    have a4 := mC_ok f (List.mem_of_getElem? hf)
    refine ⟨⟨a1, ⟨a2, a3⟩, List.mem_of_getElem? a4, a5, List.mem_of_getElem? a6⟩, a7, List.mem_of_getElem? h2, fun q => ?_, fun q => ?_, fun q => ?_, fun q => ?_⟩
    · rw [if_pos q] at a8
      exact List.mem_of_getElem? (of_decide_eq_true a8)
    · rw [if_neg q] at a8
      exact List.mem_of_getElem? (of_decide_eq_true (Bool.and_eq_true_iff.mp a8).1)
    · rw [if_neg (by omega)] at a8
      have b := (Bool.and_eq_true_iff.mp a8).2
      rw [if_pos q] at b
      simp only [Bool.and_eq_true, decide_eq_true_eq] at b
      exact ⟨List.mem_of_getElem? b.1.1, b.1.2, b.2⟩
    · rw [if_neg (by omega)] at a8
      have b := (Bool.and_eq_true_iff.mp a8).2
      rw [if_neg (by omega)] at b
      simp only [Bool.and_eq_true, decide_eq_true_eq] at b
      exact ⟨b.1.1, b.1.2, b.2⟩
  · cases hc
/-- a method of the list -/
theorem mT_MV {j : Nat} {e : Mt × Nat × Nat × Nat × Nat × Nat} (h : mT[j]? = some e) : MV e.1 ∧ oN e.1.2.2.2.2.2 = e.1.1.cls := by
  have hmt := mT_ok e (List.mem_of_getElem? h)
  unfold mTc at hmt
  simp only [Bool.and_eq_true, decide_eq_true_eq] at hmt
  obtain ⟨⟨⟨⟨⟨⟨a1, a2⟩, a3⟩, a5⟩, a6⟩, a7⟩, a8⟩ := hmt
  have a4 := mC_ok e (List.mem_of_getElem? h)
  exact ⟨⟨a1, ⟨a2, a3⟩, List.mem_of_getElem? a4, a5, List.mem_of_getElem? a6⟩, a7⟩
