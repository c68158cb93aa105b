/-! ===== facts of the code ===== -/
def M_La_law : Mt := (⟨"FriendBackupLaw", "law", "([I)Z"⟩, code, 7, some (FieldType.boolean), [], 11)
theorem fi_I {ci k : Nat} {z : Int} (h : (!frf ci k && decide (fyT ci k = .int)) = true) : fitB ci k (vI z) = true := by
  simp only [Bool.and_eq_true] at h
  show (!frf ci k && (decide (fyT ci k = .int) || _)) = true
  rw [h.1, h.2]
  rfl
theorem fi_Z {ci k : Nat} {z : Int} (h : (!frf ci k && decide (fyT ci k = .boolean)) = true) : fitB ci k (vI z) = true ↔ (z = 0 ∨ z = 1) := by
  simp only [Bool.and_eq_true, decide_eq_true_eq] at h
  show (!frf ci k && (decide (fyT ci k = .int) || (decide (fyT ci k = .boolean) && (decide (z = 0) || decide (z = 1))))) = true ↔ _
  rw [h.1, h.2]
  simp
theorem fi_R {ci k : Nat} {z : Option Nm} (h : (frf ci k && (match fyT ci k with | .object _ => true | .array _ => true | _ => false)) = true) : fitB ci k (vR z) = true := h
theorem dc_FB_init_0 : decode M_FB_init.2.1 0 = .ok (.aload_n 0, 1) := by decide +kernel
theorem dc_FB_init_1 : decode M_FB_init.2.1 1 = .ok (.invokespecial 3, 3) := by decide +kernel
theorem km_0_3 : rM 0 3 = some (3, M_FB_init) := rM_at (j := 0) (p := 84) (by decide +kernel) rfl
theorem dc_FB_init_4 : decode M_FB_init.2.1 4 = .ok (.aload_n 0, 1) := by decide +kernel
theorem dc_FB_init_5 : decode M_FB_init.2.1 5 = .ok (.bipush 10, 2) := by decide +kernel
theorem k_bipush_10 : (Int8.ofInt 10).toInt32.toInt = 10 := by decide
theorem dc_FB_init_7 : decode M_FB_init.2.1 7 = .ok (.anewarray 9, 3) := by decide +kernel
theorem dc_FB_init_10 : decode M_FB_init.2.1 10 = .ok (.putfield 11, 3) := by decide +kernel
theorem kf_0_11 : rF 0 11 = some (0, 0) := by decide +kernel
theorem kp_FB_init_0_0 : fpB M_FB_init 0 0 = true := by decide +kernel
theorem dc_FB_init_13 : decode M_FB_init.2.1 13 = .ok (.aload_n 0, 1) := by decide +kernel
theorem dc_FB_init_14 : decode M_FB_init.2.1 14 = .ok (.new 15, 3) := by decide +kernel
theorem kn_0_15 : rN 0 15 = some 2 := by decide +kernel
theorem dc_FB_init_17 : decode M_FB_init.2.1 17 = .ok (.dup, 1) := by decide +kernel
theorem dc_FB_init_18 : decode M_FB_init.2.1 18 = .ok (.invokespecial 17, 3) := by decide +kernel
theorem km_0_17 : rM 0 17 = some (2, M_Coder_init) := rM_at (j := 1) (p := 91) (by decide +kernel) rfl
theorem np_Coder_init : nP M_Coder_init = 0 := by decide +kernel
theorem kiR_0_0 {z : Option Nm} : fitB 0 0 (vR z) = true := fi_R (by decide +kernel)
theorem ka_0_9 : rA 0 9 = some 4 := by decide +kernel
theorem dc_FB_init_21 : decode M_FB_init.2.1 21 = .ok (.putfield 18, 3) := by decide +kernel
theorem kf_0_18 : rF 0 18 = some (0, 1) := by decide +kernel
theorem kp_FB_init_0_1 : fpB M_FB_init 0 1 = true := by decide +kernel
theorem dc_FB_init_24 : decode M_FB_init.2.1 24 = .ok (.aload_n 0, 1) := by decide +kernel
theorem dc_FB_init_25 : decode M_FB_init.2.1 25 = .ok (.new 22, 3) := by decide +kernel
theorem kn_0_22 : rN 0 22 = some 3 := by decide +kernel
theorem dc_FB_init_28 : decode M_FB_init.2.1 28 = .ok (.dup, 1) := by decide +kernel
theorem kiR_0_1 {z : Option Nm} : fitB 0 1 (vR z) = true := fi_R (by decide +kernel)
theorem dc_FB_init_29 : decode M_FB_init.2.1 29 = .ok (.invokespecial 24, 3) := by decide +kernel
theorem dc_FB_init_32 : decode M_FB_init.2.1 32 = .ok (.putfield 25, 3) := by decide +kernel
theorem kf_0_25 : rF 0 25 = some (0, 2) := by decide +kernel
theorem kp_FB_init_0_2 : fpB M_FB_init 0 2 = true := by decide +kernel
theorem dc_FB_init_35 : decode M_FB_init.2.1 35 = .ok (.aload_n 0, 1) := by decide +kernel
theorem dc_FB_init_36 : decode M_FB_init.2.1 36 = .ok (.sipush 200, 3) := by decide +kernel
theorem k_sipush_200 : (Int16.ofInt 200).toInt32.toInt = 200 := by decide
theorem dc_FB_init_39 : decode M_FB_init.2.1 39 = .ok (.newarray .int, 2) := by decide +kernel
theorem dc_FB_init_41 : decode M_FB_init.2.1 41 = .ok (.putfield 29, 3) := by decide +kernel
theorem kf_0_29 : rF 0 29 = some (0, 3) := by decide +kernel
theorem kp_FB_init_0_3 : fpB M_FB_init 0 3 = true := by decide +kernel
theorem dc_FB_init_44 : decode M_FB_init.2.1 44 = .ok (.aload_n 0, 1) := by decide +kernel
theorem dc_FB_init_45 : decode M_FB_init.2.1 45 = .ok (.bipush 60, 2) := by decide +kernel
theorem k_bipush_60 : (Int8.ofInt 60).toInt32.toInt = 60 := by decide
theorem dc_FB_init_47 : decode M_FB_init.2.1 47 = .ok (.newarray .int, 2) := by decide +kernel
theorem dc_FB_init_49 : decode M_FB_init.2.1 49 = .ok (.putfield 33, 3) := by decide +kernel
theorem kf_0_33 : rF 0 33 = some (0, 4) := by decide +kernel
theorem kp_FB_init_0_4 : fpB M_FB_init 0 4 = true := by decide +kernel
theorem dc_FB_init_52 : decode M_FB_init.2.1 52 = .ok (.aload_n 0, 1) := by decide +kernel
theorem dc_FB_init_53 : decode M_FB_init.2.1 53 = .ok (.bipush 30, 2) := by decide +kernel
theorem k_bipush_30 : (Int8.ofInt 30).toInt32.toInt = 30 := by decide
theorem dc_FB_init_55 : decode M_FB_init.2.1 55 = .ok (.newarray .int, 2) := by decide +kernel
theorem dc_FB_init_57 : decode M_FB_init.2.1 57 = .ok (.putfield 36, 3) := by decide +kernel
theorem kf_0_36 : rF 0 36 = some (0, 5) := by decide +kernel
theorem kp_FB_init_0_5 : fpB M_FB_init 0 5 = true := by decide +kernel
theorem dc_FB_init_60 : decode M_FB_init.2.1 60 = .ok (.return_, 1) := by decide +kernel
theorem kiR_0_5 {z : Option Nm} : fitB 0 5 (vR z) = true := fi_R (by decide +kernel)
theorem kiR_0_4 {z : Option Nm} : fitB 0 4 (vR z) = true := fi_R (by decide +kernel)
theorem kiR_0_3 {z : Option Nm} : fitB 0 3 (vR z) = true := fi_R (by decide +kernel)
theorem kiR_0_2 {z : Option Nm} : fitB 0 2 (vR z) = true := fi_R (by decide +kernel)
theorem dc_Coder_init_0 : decode M_Coder_init.2.1 0 = .ok (.aload_n 0, 1) := by decide +kernel
theorem dc_Coder_init_1 : decode M_Coder_init.2.1 1 = .ok (.invokespecial 3, 3) := by decide +kernel
theorem km_2_3 : rM 2 3 = some (3, M_FB_init) := rM_at (j := 0) (p := 94) (by decide +kernel) rfl
theorem dc_Coder_init_4 : decode M_Coder_init.2.1 4 = .ok (.aload_n 0, 1) := by decide +kernel
theorem dc_Coder_init_5 : decode M_Coder_init.2.1 5 = .ok (.new 9, 3) := by decide +kernel
theorem kn_2_9 : rN 2 9 = some 4 := by decide +kernel
theorem dc_Coder_init_8 : decode M_Coder_init.2.1 8 = .ok (.dup, 1) := by decide +kernel
theorem dc_Coder_init_9 : decode M_Coder_init.2.1 9 = .ok (.invokespecial 11, 3) := by decide +kernel
theorem km_2_11 : rM 2 11 = some (2, M_Field_init) := rM_at (j := 2) (p := 97) (by decide +kernel) rfl
theorem np_Field_init : nP M_Field_init = 0 := by decide +kernel
theorem dc_Coder_init_12 : decode M_Coder_init.2.1 12 = .ok (.putfield 12, 3) := by decide +kernel
theorem kf_2_12 : rF 2 12 = some (2, 0) := by decide +kernel
theorem kp_Coder_init_2_0 : fpB M_Coder_init 2 0 = true := by decide +kernel
theorem dc_Coder_init_15 : decode M_Coder_init.2.1 15 = .ok (.aload_n 0, 1) := by decide +kernel
theorem dc_Coder_init_16 : decode M_Coder_init.2.1 16 = .ok (.bipush 12, 2) := by decide +kernel
theorem k_bipush_12 : (Int8.ofInt 12).toInt32.toInt = 12 := by decide
theorem dc_Coder_init_18 : decode M_Coder_init.2.1 18 = .ok (.bipush 6, 2) := by decide +kernel
theorem k_bipush_6 : (Int8.ofInt 6).toInt32.toInt = 6 := by decide
theorem kiR_2_0 {z : Option Nm} : fitB 2 0 (vR z) = true := fi_R (by decide +kernel)
theorem dc_Coder_init_20 : decode M_Coder_init.2.1 20 = .ok (.multianewarray 18 2, 4) := by decide +kernel
theorem dc_Coder_init_24 : decode M_Coder_init.2.1 24 = .ok (.putfield 20, 3) := by decide +kernel
theorem kf_2_20 : rF 2 20 = some (2, 1) := by decide +kernel
theorem kp_Coder_init_2_1 : fpB M_Coder_init 2 1 = true := by decide +kernel
theorem dc_Coder_init_27 : decode M_Coder_init.2.1 27 = .ok (.aload_n 0, 1) := by decide +kernel
theorem dc_Coder_init_28 : decode M_Coder_init.2.1 28 = .ok (.bipush 6, 2) := by decide +kernel
theorem dc_Coder_init_30 : decode M_Coder_init.2.1 30 = .ok (.bipush 36, 2) := by decide +kernel
theorem k_bipush_36 : (Int8.ofInt 36).toInt32.toInt = 36 := by decide
theorem kiR_2_1 {z : Option Nm} : fitB 2 1 (vR z) = true := fi_R (by decide +kernel)
theorem dc_Coder_init_32 : decode M_Coder_init.2.1 32 = .ok (.multianewarray 18 2, 4) := by decide +kernel
theorem dc_Coder_init_36 : decode M_Coder_init.2.1 36 = .ok (.putfield 23, 3) := by decide +kernel
theorem kf_2_23 : rF 2 23 = some (2, 2) := by decide +kernel
theorem kp_Coder_init_2_2 : fpB M_Coder_init 2 2 = true := by decide +kernel
theorem dc_Coder_init_39 : decode M_Coder_init.2.1 39 = .ok (.iconst 0, 1) := by decide +kernel
theorem k_iconst_0 : (Int32.ofInt 0).toInt = 0 := by decide
theorem dc_Coder_init_40 : decode M_Coder_init.2.1 40 = .ok (.istore_n 1, 1) := by decide +kernel
theorem kiR_2_2 {z : Option Nm} : fitB 2 2 (vR z) = true := fi_R (by decide +kernel)
theorem dc_Coder_init_41 : decode M_Coder_init.2.1 41 = .ok (.iload_n 1, 1) := by decide +kernel
theorem dc_Coder_init_42 : decode M_Coder_init.2.1 42 = .ok (.bipush 12, 2) := by decide +kernel
theorem dc_Coder_init_44 : decode M_Coder_init.2.1 44 = .ok (.if_icmp .ge 44, 3) := by decide +kernel
theorem dc_Coder_init_88 : decode M_Coder_init.2.1 88 = .ok (.aload_n 0, 1) := by decide +kernel
theorem dc_Coder_init_89 : decode M_Coder_init.2.1 89 = .ok (.iconst 2, 1) := by decide +kernel
theorem k_iconst_2 : (Int32.ofInt 2).toInt = 2 := by decide
theorem dc_Coder_init_90 : decode M_Coder_init.2.1 90 = .ok (.iconst 4, 1) := by decide +kernel
theorem k_iconst_4 : (Int32.ofInt 4).toInt = 4 := by decide
theorem dc_Coder_init_91 : decode M_Coder_init.2.1 91 = .ok (.invokevirtual 30, 3) := by decide +kernel
theorem km_2_30 : rM 2 30 = some (1, M_Coder_use) := rM_at (j := 4) (p := 115) (by decide +kernel) rfl
theorem np_Coder_use : nP M_Coder_use = 2 := by decide +kernel
theorem dc_Coder_init_47 : decode M_Coder_init.2.1 47 = .ok (.iconst 0, 1) := by decide +kernel
theorem dc_Coder_init_48 : decode M_Coder_init.2.1 48 = .ok (.istore_n 2, 1) := by decide +kernel
theorem dc_Coder_init_49 : decode M_Coder_init.2.1 49 = .ok (.iload_n 2, 1) := by decide +kernel
theorem dc_Coder_init_50 : decode M_Coder_init.2.1 50 = .ok (.bipush 6, 2) := by decide +kernel
theorem dc_Coder_init_52 : decode M_Coder_init.2.1 52 = .ok (.if_icmp .ge 30, 3) := by decide +kernel
theorem dc_Coder_init_82 : decode M_Coder_init.2.1 82 = .ok (.iinc 1 1, 3) := by decide +kernel
theorem dc_Coder_init_85 : decode M_Coder_init.2.1 85 = .ok (.goto (-44), 3) := by decide +kernel
theorem dc_Coder_init_55 : decode M_Coder_init.2.1 55 = .ok (.aload_n 0, 1) := by decide +kernel
theorem dc_Coder_init_56 : decode M_Coder_init.2.1 56 = .ok (.getfield 20, 3) := by decide +kernel
theorem dc_Coder_init_59 : decode M_Coder_init.2.1 59 = .ok (.iload_n 1, 1) := by decide +kernel
theorem dc_Coder_init_60 : decode M_Coder_init.2.1 60 = .ok (.aaload, 1) := by decide +kernel
theorem dc_Coder_init_61 : decode M_Coder_init.2.1 61 = .ok (.iload_n 2, 1) := by decide +kernel
theorem dc_Coder_init_62 : decode M_Coder_init.2.1 62 = .ok (.aload_n 0, 1) := by decide +kernel
theorem dc_Coder_init_63 : decode M_Coder_init.2.1 63 = .ok (.getfield 12, 3) := by decide +kernel
theorem dc_Coder_init_66 : decode M_Coder_init.2.1 66 = .ok (.bipush 16, 2) := by decide +kernel
theorem k_bipush_16 : (Int8.ofInt 16).toInt32.toInt = 16 := by decide
theorem dc_Coder_init_68 : decode M_Coder_init.2.1 68 = .ok (.iload_n 1, 1) := by decide +kernel
theorem dc_Coder_init_69 : decode M_Coder_init.2.1 69 = .ok (.iadd, 1) := by decide +kernel
theorem dc_Coder_init_70 : decode M_Coder_init.2.1 70 = .ok (.iload_n 2, 1) := by decide +kernel
theorem dc_Coder_init_71 : decode M_Coder_init.2.1 71 = .ok (.ixor, 1) := by decide +kernel
theorem dc_Coder_init_72 : decode M_Coder_init.2.1 72 = .ok (.invokevirtual 26, 3) := by decide +kernel
theorem km_2_26 : rM 2 26 = some (1, M_Field_inverse) := rM_at (j := 3) (p := 111) (by decide +kernel) rfl
theorem np_Field_inverse : nP M_Field_inverse = 1 := by decide +kernel
theorem dc_Coder_init_75 : decode M_Coder_init.2.1 75 = .ok (.iastore, 1) := by decide +kernel
theorem dc_Coder_init_76 : decode M_Coder_init.2.1 76 = .ok (.iinc 2 1, 3) := by decide +kernel
theorem dc_Coder_init_79 : decode M_Coder_init.2.1 79 = .ok (.goto (-30), 3) := by decide +kernel
theorem dc_Coder_init_94 : decode M_Coder_init.2.1 94 = .ok (.return_, 1) := by decide +kernel
theorem dc_Field_init_0 : decode M_Field_init.2.1 0 = .ok (.aload_n 0, 1) := by decide +kernel
theorem dc_Field_init_1 : decode M_Field_init.2.1 1 = .ok (.invokespecial 3, 3) := by decide +kernel
theorem km_4_3 : rM 4 3 = some (3, M_FB_init) := rM_at (j := 0) (p := 100) (by decide +kernel) rfl
theorem dc_Field_init_4 : decode M_Field_init.2.1 4 = .ok (.aload_n 0, 1) := by decide +kernel
theorem dc_Field_init_5 : decode M_Field_init.2.1 5 = .ok (.sipush 510, 3) := by decide +kernel
theorem k_sipush_510 : (Int16.ofInt 510).toInt32.toInt = 510 := by decide
theorem dc_Field_init_8 : decode M_Field_init.2.1 8 = .ok (.newarray .int, 2) := by decide +kernel
theorem dc_Field_init_10 : decode M_Field_init.2.1 10 = .ok (.putfield 9, 3) := by decide +kernel
theorem kf_4_9 : rF 4 9 = some (4, 0) := by decide +kernel
theorem kp_Field_init_4_0 : fpB M_Field_init 4 0 = true := by decide +kernel
theorem dc_Field_init_13 : decode M_Field_init.2.1 13 = .ok (.aload_n 0, 1) := by decide +kernel
theorem dc_Field_init_14 : decode M_Field_init.2.1 14 = .ok (.sipush 256, 3) := by decide +kernel
theorem k_sipush_256 : (Int16.ofInt 256).toInt32.toInt = 256 := by decide
theorem dc_Field_init_17 : decode M_Field_init.2.1 17 = .ok (.newarray .int, 2) := by decide +kernel
theorem dc_Field_init_19 : decode M_Field_init.2.1 19 = .ok (.putfield 15, 3) := by decide +kernel
theorem kf_4_15 : rF 4 15 = some (4, 1) := by decide +kernel
theorem kp_Field_init_4_1 : fpB M_Field_init 4 1 = true := by decide +kernel
theorem dc_Field_init_22 : decode M_Field_init.2.1 22 = .ok (.iconst 1, 1) := by decide +kernel
theorem k_iconst_1 : (Int32.ofInt 1).toInt = 1 := by decide
theorem dc_Field_init_23 : decode M_Field_init.2.1 23 = .ok (.istore_n 1, 1) := by decide +kernel
theorem dc_Field_init_24 : decode M_Field_init.2.1 24 = .ok (.iconst 0, 1) := by decide +kernel
theorem dc_Field_init_25 : decode M_Field_init.2.1 25 = .ok (.istore_n 2, 1) := by decide +kernel
theorem kiR_4_1 {z : Option Nm} : fitB 4 1 (vR z) = true := fi_R (by decide +kernel)
theorem kiR_4_0 {z : Option Nm} : fitB 4 0 (vR z) = true := fi_R (by decide +kernel)
theorem dc_Field_init_26 : decode M_Field_init.2.1 26 = .ok (.iload_n 2, 1) := by decide +kernel
theorem dc_Field_init_27 : decode M_Field_init.2.1 27 = .ok (.sipush 255, 3) := by decide +kernel
theorem k_sipush_255 : (Int16.ofInt 255).toInt32.toInt = 255 := by decide
theorem dc_Field_init_30 : decode M_Field_init.2.1 30 = .ok (.if_icmp .ge 51, 3) := by decide +kernel
theorem dc_Field_init_81 : decode M_Field_init.2.1 81 = .ok (.return_, 1) := by decide +kernel
theorem dc_Field_init_33 : decode M_Field_init.2.1 33 = .ok (.aload_n 0, 1) := by decide +kernel
theorem dc_Field_init_34 : decode M_Field_init.2.1 34 = .ok (.getfield 9, 3) := by decide +kernel
theorem dc_Field_init_37 : decode M_Field_init.2.1 37 = .ok (.iload_n 2, 1) := by decide +kernel
theorem dc_Field_init_38 : decode M_Field_init.2.1 38 = .ok (.iload_n 1, 1) := by decide +kernel
theorem dc_Field_init_39 : decode M_Field_init.2.1 39 = .ok (.iastore, 1) := by decide +kernel
theorem dc_Field_init_40 : decode M_Field_init.2.1 40 = .ok (.aload_n 0, 1) := by decide +kernel
theorem dc_Field_init_41 : decode M_Field_init.2.1 41 = .ok (.getfield 9, 3) := by decide +kernel
theorem dc_Field_init_44 : decode M_Field_init.2.1 44 = .ok (.iload_n 2, 1) := by decide +kernel
theorem dc_Field_init_45 : decode M_Field_init.2.1 45 = .ok (.sipush 255, 3) := by decide +kernel
theorem dc_Field_init_48 : decode M_Field_init.2.1 48 = .ok (.iadd, 1) := by decide +kernel
theorem dc_Field_init_49 : decode M_Field_init.2.1 49 = .ok (.iload_n 1, 1) := by decide +kernel
theorem dc_Field_init_50 : decode M_Field_init.2.1 50 = .ok (.iastore, 1) := by decide +kernel
theorem dc_Field_init_51 : decode M_Field_init.2.1 51 = .ok (.aload_n 0, 1) := by decide +kernel
theorem dc_Field_init_52 : decode M_Field_init.2.1 52 = .ok (.getfield 15, 3) := by decide +kernel
theorem dc_Field_init_55 : decode M_Field_init.2.1 55 = .ok (.iload_n 1, 1) := by decide +kernel
theorem dc_Field_init_56 : decode M_Field_init.2.1 56 = .ok (.iload_n 2, 1) := by decide +kernel
theorem dc_Field_init_57 : decode M_Field_init.2.1 57 = .ok (.iastore, 1) := by decide +kernel
theorem dc_Field_init_58 : decode M_Field_init.2.1 58 = .ok (.iload_n 1, 1) := by decide +kernel
theorem dc_Field_init_59 : decode M_Field_init.2.1 59 = .ok (.iconst 1, 1) := by decide +kernel
theorem dc_Field_init_60 : decode M_Field_init.2.1 60 = .ok (.ishl, 1) := by decide +kernel
theorem dc_Field_init_61 : decode M_Field_init.2.1 61 = .ok (.istore_n 1, 1) := by decide +kernel
theorem dc_Field_init_62 : decode M_Field_init.2.1 62 = .ok (.iload_n 1, 1) := by decide +kernel
theorem dc_Field_init_63 : decode M_Field_init.2.1 63 = .ok (.sipush 255, 3) := by decide +kernel
theorem dc_Field_init_66 : decode M_Field_init.2.1 66 = .ok (.if_icmp .le 9, 3) := by decide +kernel
theorem dc_Field_init_69 : decode M_Field_init.2.1 69 = .ok (.iload_n 1, 1) := by decide +kernel
theorem dc_Field_init_70 : decode M_Field_init.2.1 70 = .ok (.sipush 285, 3) := by decide +kernel
theorem k_sipush_285 : (Int16.ofInt 285).toInt32.toInt = 285 := by decide
theorem dc_Field_init_73 : decode M_Field_init.2.1 73 = .ok (.ixor, 1) := by decide +kernel
theorem dc_Field_init_74 : decode M_Field_init.2.1 74 = .ok (.istore_n 1, 1) := by decide +kernel
theorem dc_Field_init_75 : decode M_Field_init.2.1 75 = .ok (.iinc 2 1, 3) := by decide +kernel
theorem dc_Field_init_78 : decode M_Field_init.2.1 78 = .ok (.goto (-52), 3) := by decide +kernel
theorem dc_Field_inverse_0 : decode M_Field_inverse.2.1 0 = .ok (.aload_n 0, 1) := by decide +kernel
theorem dc_Field_inverse_1 : decode M_Field_inverse.2.1 1 = .ok (.getfield 9, 3) := by decide +kernel
theorem dc_Field_inverse_4 : decode M_Field_inverse.2.1 4 = .ok (.sipush 255, 3) := by decide +kernel
theorem dc_Field_inverse_7 : decode M_Field_inverse.2.1 7 = .ok (.aload_n 0, 1) := by decide +kernel
theorem dc_Field_inverse_8 : decode M_Field_inverse.2.1 8 = .ok (.getfield 15, 3) := by decide +kernel
theorem dc_Field_inverse_11 : decode M_Field_inverse.2.1 11 = .ok (.iload_n 1, 1) := by decide +kernel
theorem dc_Field_inverse_12 : decode M_Field_inverse.2.1 12 = .ok (.iaload, 1) := by decide +kernel
theorem dc_Field_inverse_13 : decode M_Field_inverse.2.1 13 = .ok (.isub, 1) := by decide +kernel
theorem dc_Field_inverse_14 : decode M_Field_inverse.2.1 14 = .ok (.iaload, 1) := by decide +kernel
theorem dc_Field_inverse_15 : decode M_Field_inverse.2.1 15 = .ok (.ireturn, 1) := by decide +kernel
theorem dc_Coder_use_0 : decode M_Coder_use.2.1 0 = .ok (.aload_n 0, 1) := by decide +kernel
theorem dc_Coder_use_1 : decode M_Coder_use.2.1 1 = .ok (.iload_n 1, 1) := by decide +kernel
theorem dc_Coder_use_2 : decode M_Coder_use.2.1 2 = .ok (.putfield 34, 3) := by decide +kernel
theorem kf_2_34 : rF 2 34 = some (2, 3) := by decide +kernel
theorem kp_Coder_use_2_3 : fpB M_Coder_use 2 3 = true := by decide +kernel
theorem dc_Coder_use_5 : decode M_Coder_use.2.1 5 = .ok (.aload_n 0, 1) := by decide +kernel
theorem dc_Coder_use_6 : decode M_Coder_use.2.1 6 = .ok (.iload_n 2, 1) := by decide +kernel
theorem dc_Coder_use_7 : decode M_Coder_use.2.1 7 = .ok (.putfield 38, 3) := by decide +kernel
theorem kf_2_38 : rF 2 38 = some (2, 4) := by decide +kernel
theorem kp_Coder_use_2_4 : fpB M_Coder_use 2 4 = true := by decide +kernel
theorem dc_Coder_use_10 : decode M_Coder_use.2.1 10 = .ok (.aload_n 0, 1) := by decide +kernel
theorem dc_Coder_use_11 : decode M_Coder_use.2.1 11 = .ok (.bipush 60, 2) := by decide +kernel
theorem dc_Coder_use_13 : decode M_Coder_use.2.1 13 = .ok (.iload_n 1, 1) := by decide +kernel
theorem dc_Coder_use_14 : decode M_Coder_use.2.1 14 = .ok (.idiv, 1) := by decide +kernel
theorem dc_Coder_use_15 : decode M_Coder_use.2.1 15 = .ok (.putfield 41, 3) := by decide +kernel
theorem kf_2_41 : rF 2 41 = some (2, 5) := by decide +kernel
theorem kp_Coder_use_2_5 : fpB M_Coder_use 2 5 = true := by decide +kernel
theorem dc_Coder_use_18 : decode M_Coder_use.2.1 18 = .ok (.return_, 1) := by decide +kernel
theorem kiI_2_5 {z : Int} : fitB 2 5 (vI z) = true := fi_I (by decide +kernel)
theorem kiI_2_4 {z : Int} : fitB 2 4 (vI z) = true := fi_I (by decide +kernel)
theorem kiI_2_3 {z : Int} : fitB 2 3 (vI z) = true := fi_I (by decide +kernel)
theorem dc_Draft_init_0 : decode M_Draft_init.2.1 0 = .ok (.aload_n 0, 1) := by decide +kernel
theorem dc_Draft_init_1 : decode M_Draft_init.2.1 1 = .ok (.invokespecial 3, 3) := by decide +kernel
theorem km_3_3 : rM 3 3 = some (3, M_FB_init) := rM_at (j := 0) (p := 150) (by decide +kernel) rfl
theorem dc_Draft_init_4 : decode M_Draft_init.2.1 4 = .ok (.aload_n 0, 1) := by decide +kernel
theorem dc_Draft_init_5 : decode M_Draft_init.2.1 5 = .ok (.sipush 500, 3) := by decide +kernel
theorem k_sipush_500 : (Int16.ofInt 500).toInt32.toInt = 500 := by decide
theorem dc_Draft_init_8 : decode M_Draft_init.2.1 8 = .ok (.anewarray 9, 3) := by decide +kernel
theorem dc_Draft_init_11 : decode M_Draft_init.2.1 11 = .ok (.putfield 11, 3) := by decide +kernel
theorem kf_3_11 : rF 3 11 = some (3, 0) := by decide +kernel
theorem kp_Draft_init_3_0 : fpB M_Draft_init 3 0 = true := by decide +kernel
theorem dc_Draft_init_14 : decode M_Draft_init.2.1 14 = .ok (.aload_n 0, 1) := by decide +kernel
theorem dc_Draft_init_15 : decode M_Draft_init.2.1 15 = .ok (.bipush 11, 2) := by decide +kernel
theorem k_bipush_11 : (Int8.ofInt 11).toInt32.toInt = 11 := by decide
theorem dc_Draft_init_17 : decode M_Draft_init.2.1 17 = .ok (.newarray .int, 2) := by decide +kernel
theorem dc_Draft_init_19 : decode M_Draft_init.2.1 19 = .ok (.putfield 17, 3) := by decide +kernel
theorem kf_3_17 : rF 3 17 = some (3, 1) := by decide +kernel
theorem kp_Draft_init_3_1 : fpB M_Draft_init 3 1 = true := by decide +kernel
theorem dc_Draft_init_22 : decode M_Draft_init.2.1 22 = .ok (.return_, 1) := by decide +kernel
theorem kiR_3_1 {z : Option Nm} : fitB 3 1 (vR z) = true := fi_R (by decide +kernel)
theorem kiR_3_0 {z : Option Nm} : fitB 3 0 (vR z) = true := fi_R (by decide +kernel)
theorem ka_3_9 : rA 3 9 = some 6 := by decide +kernel
theorem dc_FB_restored_0 : decode M_FB_restored.2.1 0 = .ok (.iload_n 1, 1) := by decide +kernel
theorem dc_FB_restored_1 : decode M_FB_restored.2.1 1 = .ok (.iconst 0, 1) := by decide +kernel
theorem dc_FB_restored_2 : decode M_FB_restored.2.1 2 = .ok (.aload_n 0, 1) := by decide +kernel
theorem dc_FB_restored_3 : decode M_FB_restored.2.1 3 = .ok (.getfield 258, 3) := by decide +kernel
theorem kf_0_258 : rF 0 258 = some (0, 6) := by decide +kernel
theorem dc_FB_restored_6 : decode M_FB_restored.2.1 6 = .ok (.iconst 1, 1) := by decide +kernel
theorem dc_FB_restored_7 : decode M_FB_restored.2.1 7 = .ok (.isub, 1) := by decide +kernel
theorem dc_FB_restored_8 : decode M_FB_restored.2.1 8 = .ok (.invokestatic 39, 3) := by decide +kernel
theorem km_0_39 : rM 0 39 = some (0, M_FB_isWithin) := rM_at (j := 7) (p := 205) (by decide +kernel) rfl
theorem np_FB_isWithin : nP M_FB_isWithin = 3 := by decide +kernel
theorem dc_FB_restored_11 : decode M_FB_restored.2.1 11 = .ok (.ifCond .eq 12, 3) := by decide +kernel
theorem dc_FB_restored_23 : decode M_FB_restored.2.1 23 = .ok (.iconst (-1), 1) := by decide +kernel
theorem k_iconst_m1 : (Int32.ofInt (-1)).toInt = -1 := by decide
theorem dc_FB_restored_14 : decode M_FB_restored.2.1 14 = .ok (.aload_n 0, 1) := by decide +kernel
theorem dc_FB_restored_15 : decode M_FB_restored.2.1 15 = .ok (.getfield 29, 3) := by decide +kernel
theorem dc_FB_restored_18 : decode M_FB_restored.2.1 18 = .ok (.iload_n 1, 1) := by decide +kernel
theorem dc_FB_restored_19 : decode M_FB_restored.2.1 19 = .ok (.iaload, 1) := by decide +kernel
theorem dc_FB_restored_20 : decode M_FB_restored.2.1 20 = .ok (.goto 4, 3) := by decide +kernel
theorem dc_FB_restored_24 : decode M_FB_restored.2.1 24 = .ok (.ireturn, 1) := by decide +kernel
theorem dc_FB_isWithin_0 : decode M_FB_isWithin.2.1 0 = .ok (.iload_n 0, 1) := by decide +kernel
theorem dc_FB_isWithin_1 : decode M_FB_isWithin.2.1 1 = .ok (.iload_n 1, 1) := by decide +kernel
theorem dc_FB_isWithin_2 : decode M_FB_isWithin.2.1 2 = .ok (.if_icmp .lt 12, 3) := by decide +kernel
theorem dc_FB_isWithin_5 : decode M_FB_isWithin.2.1 5 = .ok (.iload_n 0, 1) := by decide +kernel
theorem dc_FB_isWithin_6 : decode M_FB_isWithin.2.1 6 = .ok (.iload_n 2, 1) := by decide +kernel
theorem dc_FB_isWithin_7 : decode M_FB_isWithin.2.1 7 = .ok (.if_icmp .gt 7, 3) := by decide +kernel
theorem dc_FB_isWithin_10 : decode M_FB_isWithin.2.1 10 = .ok (.iconst 1, 1) := by decide +kernel
theorem dc_FB_isWithin_11 : decode M_FB_isWithin.2.1 11 = .ok (.goto 4, 3) := by decide +kernel
theorem dc_FB_isWithin_14 : decode M_FB_isWithin.2.1 14 = .ok (.iconst 0, 1) := by decide +kernel
theorem dc_FB_isWithin_15 : decode M_FB_isWithin.2.1 15 = .ok (.ireturn, 1) := by decide +kernel
theorem dc_La_code_0 : decode M_La_code.2.1 0 = .ok (.aload_n 0, 1) := by decide +kernel
theorem dc_La_code_1 : decode M_La_code.2.1 1 = .ok (.iload_n 1, 1) := by decide +kernel
theorem dc_La_code_2 : decode M_La_code.2.1 2 = .ok (.iload_n 2, 1) := by decide +kernel
theorem dc_La_code_3 : decode M_La_code.2.1 3 = .ok (.invokevirtual 7, 3) := by decide +kernel
theorem km_11_7 : rM 11 7 = some (1, M_FB_code) := rM_at (j := 9) (p := 213) (by decide +kernel) rfl
theorem np_FB_code : nP M_FB_code = 2 := by decide +kernel
theorem dc_La_code_6 : decode M_La_code.2.1 6 = .ok (.goto 9, 3) := by decide +kernel
theorem dc_La_code_15 : decode M_La_code.2.1 15 = .ok (.iconst 0, 1) := by decide +kernel
theorem dc_La_code_16 : decode M_La_code.2.1 16 = .ok (.ireturn, 1) := by decide +kernel
theorem dc_La_code_9 : decode M_La_code.2.1 9 = .ok (.astore_n 3, 1) := by decide +kernel
theorem dc_La_code_10 : decode M_La_code.2.1 10 = .ok (.iconst 1, 1) := by decide +kernel
theorem dc_La_code_11 : decode M_La_code.2.1 11 = .ok (.ireturn, 1) := by decide +kernel
theorem dc_La_code_12 : decode M_La_code.2.1 12 = .ok (.astore_n 3, 1) := by decide +kernel
theorem dc_La_code_13 : decode M_La_code.2.1 13 = .ok (.iconst 2, 1) := by decide +kernel
theorem dc_La_code_14 : decode M_La_code.2.1 14 = .ok (.ireturn, 1) := by decide +kernel
theorem dc_FB_code_0 : decode M_FB_code.2.1 0 = .ok (.iload_n 1, 1) := by decide +kernel
theorem dc_FB_code_1 : decode M_FB_code.2.1 1 = .ok (.iconst 2, 1) := by decide +kernel
theorem dc_FB_code_2 : decode M_FB_code.2.1 2 = .ok (.bipush 6, 2) := by decide +kernel
theorem dc_FB_code_4 : decode M_FB_code.2.1 4 = .ok (.invokestatic 39, 3) := by decide +kernel
theorem dc_FB_code_7 : decode M_FB_code.2.1 7 = .ok (.ifCond .eq 17, 3) := by decide +kernel
theorem dc_FB_code_10 : decode M_FB_code.2.1 10 = .ok (.iload_n 2, 1) := by decide +kernel
theorem dc_FB_code_11 : decode M_FB_code.2.1 11 = .ok (.iload_n 1, 1) := by decide +kernel
theorem dc_FB_code_12 : decode M_FB_code.2.1 12 = .ok (.bipush 12, 2) := by decide +kernel
theorem dc_FB_code_14 : decode M_FB_code.2.1 14 = .ok (.invokestatic 39, 3) := by decide +kernel
theorem dc_FB_code_17 : decode M_FB_code.2.1 17 = .ok (.ifCond .eq 7, 3) := by decide +kernel
theorem dc_FB_code_20 : decode M_FB_code.2.1 20 = .ok (.iconst 1, 1) := by decide +kernel
theorem dc_FB_code_21 : decode M_FB_code.2.1 21 = .ok (.goto 4, 3) := by decide +kernel
theorem dc_FB_code_24 : decode M_FB_code.2.1 24 = .ok (.iconst 0, 1) := by decide +kernel
theorem dc_FB_code_25 : decode M_FB_code.2.1 25 = .ok (.invokestatic 43, 3) := by decide +kernel
theorem km_0_43 : rM 0 43 = some (0, M_FB_requireArgument) := rM_at (j := 10) (p := 217) (by decide +kernel) rfl
theorem np_FB_requireArgument : nP M_FB_requireArgument = 1 := by decide +kernel
theorem dc_FB_code_28 : decode M_FB_code.2.1 28 = .ok (.aload_n 0, 1) := by decide +kernel
theorem dc_FB_code_29 : decode M_FB_code.2.1 29 = .ok (.getfield 47, 3) := by decide +kernel
theorem kf_0_47 : rF 0 47 = some (0, 7) := by decide +kernel
theorem dc_FB_code_32 : decode M_FB_code.2.1 32 = .ok (.ifCond .ne 7, 3) := by decide +kernel
theorem dc_FB_code_39 : decode M_FB_code.2.1 39 = .ok (.iconst 0, 1) := by decide +kernel
theorem dc_FB_code_35 : decode M_FB_code.2.1 35 = .ok (.iconst 1, 1) := by decide +kernel
theorem dc_FB_code_36 : decode M_FB_code.2.1 36 = .ok (.goto 4, 3) := by decide +kernel
theorem dc_FB_code_40 : decode M_FB_code.2.1 40 = .ok (.invokestatic 51, 3) := by decide +kernel
theorem km_0_51 : rM 0 51 = some (0, M_FB_requireState) := rM_at (j := 11) (p := 282) (by decide +kernel) rfl
theorem np_FB_requireState : nP M_FB_requireState = 1 := by decide +kernel
theorem dc_FB_code_43 : decode M_FB_code.2.1 43 = .ok (.aload_n 0, 1) := by decide +kernel
theorem dc_FB_code_44 : decode M_FB_code.2.1 44 = .ok (.getfield 18, 3) := by decide +kernel
theorem dc_FB_code_47 : decode M_FB_code.2.1 47 = .ok (.iload_n 1, 1) := by decide +kernel
theorem dc_FB_code_48 : decode M_FB_code.2.1 48 = .ok (.iload_n 2, 1) := by decide +kernel
theorem dc_FB_code_49 : decode M_FB_code.2.1 49 = .ok (.invokevirtual 54, 3) := by decide +kernel
theorem km_0_54 : rM 0 54 = some (1, M_Coder_use) := rM_at (j := 4) (p := 300) (by decide +kernel) rfl
theorem dc_FB_code_52 : decode M_FB_code.2.1 52 = .ok (.return_, 1) := by decide +kernel
theorem dc_FB_requireArgument_0 : decode M_FB_requireArgument.2.1 0 = .ok (.iload_n 0, 1) := by decide +kernel
theorem dc_FB_requireArgument_1 : decode M_FB_requireArgument.2.1 1 = .ok (.ifCond .ne 11, 3) := by decide +kernel
theorem dc_FB_requireArgument_12 : decode M_FB_requireArgument.2.1 12 = .ok (.return_, 1) := by decide +kernel
theorem dc_FB_requireArgument_4 : decode M_FB_requireArgument.2.1 4 = .ok (.new 302, 3) := by decide +kernel
theorem dc_FB_requireArgument_7 : decode M_FB_requireArgument.2.1 7 = .ok (.dup, 1) := by decide +kernel
theorem dc_FB_requireArgument_8 : decode M_FB_requireArgument.2.1 8 = .ok (.invokespecial 304, 3) := by decide +kernel
theorem dc_FB_requireArgument_11 : decode M_FB_requireArgument.2.1 11 = .ok (.athrow, 1) := by decide +kernel
theorem dc_FB_requireState_0 : decode M_FB_requireState.2.1 0 = .ok (.iload_n 0, 1) := by decide +kernel
theorem dc_FB_requireState_1 : decode M_FB_requireState.2.1 1 = .ok (.ifCond .ne 11, 3) := by decide +kernel
theorem dc_FB_requireState_12 : decode M_FB_requireState.2.1 12 = .ok (.return_, 1) := by decide +kernel
theorem dc_FB_requireState_4 : decode M_FB_requireState.2.1 4 = .ok (.new 305, 3) := by decide +kernel
theorem dc_FB_requireState_7 : decode M_FB_requireState.2.1 7 = .ok (.dup, 1) := by decide +kernel
theorem dc_FB_requireState_8 : decode M_FB_requireState.2.1 8 = .ok (.invokespecial 307, 3) := by decide +kernel
theorem dc_FB_requireState_11 : decode M_FB_requireState.2.1 11 = .ok (.athrow, 1) := by decide +kernel
theorem dc_La_house_0 : decode M_La_house.2.1 0 = .ok (.aload_n 0, 1) := by decide +kernel
theorem dc_La_house_1 : decode M_La_house.2.1 1 = .ok (.iload_n 1, 1) := by decide +kernel
theorem dc_La_house_2 : decode M_La_house.2.1 2 = .ok (.iload_n 2, 1) := by decide +kernel
theorem dc_La_house_3 : decode M_La_house.2.1 3 = .ok (.invokevirtual 17, 3) := by decide +kernel
theorem km_11_17 : rM 11 17 = some (1, M_FB_house) := rM_at (j := 13) (p := 304) (by decide +kernel) rfl
theorem np_FB_house : nP M_FB_house = 2 := by decide +kernel
theorem dc_La_house_6 : decode M_La_house.2.1 6 = .ok (.goto 9, 3) := by decide +kernel
theorem dc_La_house_15 : decode M_La_house.2.1 15 = .ok (.iconst 0, 1) := by decide +kernel
theorem dc_La_house_16 : decode M_La_house.2.1 16 = .ok (.ireturn, 1) := by decide +kernel
theorem dc_La_house_9 : decode M_La_house.2.1 9 = .ok (.astore_n 3, 1) := by decide +kernel
theorem dc_La_house_10 : decode M_La_house.2.1 10 = .ok (.iconst 1, 1) := by decide +kernel
theorem dc_La_house_11 : decode M_La_house.2.1 11 = .ok (.ireturn, 1) := by decide +kernel
theorem dc_La_house_12 : decode M_La_house.2.1 12 = .ok (.astore_n 3, 1) := by decide +kernel
theorem dc_La_house_13 : decode M_La_house.2.1 13 = .ok (.iconst 2, 1) := by decide +kernel
theorem dc_La_house_14 : decode M_La_house.2.1 14 = .ok (.ireturn, 1) := by decide +kernel
theorem dc_FB_house_0 : decode M_FB_house.2.1 0 = .ok (.iload_n 1, 1) := by decide +kernel
theorem dc_FB_house_1 : decode M_FB_house.2.1 1 = .ok (.iconst 0, 1) := by decide +kernel
theorem dc_FB_house_2 : decode M_FB_house.2.1 2 = .ok (.bipush 9, 2) := by decide +kernel
theorem k_bipush_9 : (Int8.ofInt 9).toInt32.toInt = 9 := by decide
theorem dc_FB_house_4 : decode M_FB_house.2.1 4 = .ok (.invokestatic 39, 3) := by decide +kernel
theorem dc_FB_house_7 : decode M_FB_house.2.1 7 = .ok (.ifCond .eq 18, 3) := by decide +kernel
theorem dc_FB_house_10 : decode M_FB_house.2.1 10 = .ok (.iload_n 2, 1) := by decide +kernel
theorem dc_FB_house_11 : decode M_FB_house.2.1 11 = .ok (.iconst 1, 1) := by decide +kernel
theorem dc_FB_house_12 : decode M_FB_house.2.1 12 = .ok (.sipush 400, 3) := by decide +kernel
theorem k_sipush_400 : (Int16.ofInt 400).toInt32.toInt = 400 := by decide
theorem dc_FB_house_15 : decode M_FB_house.2.1 15 = .ok (.invokestatic 39, 3) := by decide +kernel
theorem dc_FB_house_18 : decode M_FB_house.2.1 18 = .ok (.ifCond .eq 7, 3) := by decide +kernel
theorem dc_FB_house_21 : decode M_FB_house.2.1 21 = .ok (.iconst 1, 1) := by decide +kernel
theorem dc_FB_house_22 : decode M_FB_house.2.1 22 = .ok (.goto 4, 3) := by decide +kernel
theorem dc_FB_house_25 : decode M_FB_house.2.1 25 = .ok (.iconst 0, 1) := by decide +kernel
theorem dc_FB_house_26 : decode M_FB_house.2.1 26 = .ok (.invokestatic 43, 3) := by decide +kernel
theorem dc_FB_house_29 : decode M_FB_house.2.1 29 = .ok (.aload_n 0, 1) := by decide +kernel
theorem dc_FB_house_30 : decode M_FB_house.2.1 30 = .ok (.getfield 11, 3) := by decide +kernel
theorem dc_FB_house_33 : decode M_FB_house.2.1 33 = .ok (.iload_n 1, 1) := by decide +kernel
theorem dc_FB_house_34 : decode M_FB_house.2.1 34 = .ok (.aaload, 1) := by decide +kernel
theorem dc_FB_house_35 : decode M_FB_house.2.1 35 = .ok (.ifnonnull 7, 3) := by decide +kernel
theorem dc_FB_house_42 : decode M_FB_house.2.1 42 = .ok (.iconst 0, 1) := by decide +kernel
theorem dc_FB_house_38 : decode M_FB_house.2.1 38 = .ok (.iconst 1, 1) := by decide +kernel
theorem dc_FB_house_39 : decode M_FB_house.2.1 39 = .ok (.goto 4, 3) := by decide +kernel
theorem dc_FB_house_43 : decode M_FB_house.2.1 43 = .ok (.invokestatic 51, 3) := by decide +kernel
theorem dc_FB_house_46 : decode M_FB_house.2.1 46 = .ok (.aload_n 0, 1) := by decide +kernel
theorem dc_FB_house_47 : decode M_FB_house.2.1 47 = .ok (.getfield 11, 3) := by decide +kernel
theorem dc_FB_house_50 : decode M_FB_house.2.1 50 = .ok (.iload_n 1, 1) := by decide +kernel
theorem dc_FB_house_51 : decode M_FB_house.2.1 51 = .ok (.new 9, 3) := by decide +kernel
theorem kn_0_9 : rN 0 9 = some 5 := by decide +kernel
theorem dc_FB_house_54 : decode M_FB_house.2.1 54 = .ok (.dup, 1) := by decide +kernel
theorem dc_FB_house_55 : decode M_FB_house.2.1 55 = .ok (.iload_n 1, 1) := by decide +kernel
theorem dc_FB_house_56 : decode M_FB_house.2.1 56 = .ok (.iload_n 2, 1) := by decide +kernel
theorem dc_FB_house_57 : decode M_FB_house.2.1 57 = .ok (.invokespecial 58, 3) := by decide +kernel
theorem km_0_58 : rM 0 58 = some (2, M_House_init) := rM_at (j := 14) (p := 309) (by decide +kernel) rfl
theorem np_House_init : nP M_House_init = 2 := by decide +kernel
theorem dc_FB_house_60 : decode M_FB_house.2.1 60 = .ok (.aastore, 1) := by decide +kernel
theorem dc_FB_house_61 : decode M_FB_house.2.1 61 = .ok (.return_, 1) := by decide +kernel
theorem dc_House_init_0 : decode M_House_init.2.1 0 = .ok (.aload_n 0, 1) := by decide +kernel
theorem dc_House_init_1 : decode M_House_init.2.1 1 = .ok (.invokespecial 3, 3) := by decide +kernel
theorem km_5_3 : rM 5 3 = some (3, M_FB_init) := rM_at (j := 0) (p := 312) (by decide +kernel) rfl
theorem dc_House_init_4 : decode M_House_init.2.1 4 = .ok (.aload_n 0, 1) := by decide +kernel
theorem dc_House_init_5 : decode M_House_init.2.1 5 = .ok (.bipush 10, 2) := by decide +kernel
theorem dc_House_init_7 : decode M_House_init.2.1 7 = .ok (.newarray .int, 2) := by decide +kernel
theorem dc_House_init_9 : decode M_House_init.2.1 9 = .ok (.putfield 9, 3) := by decide +kernel
theorem kf_5_9 : rF 5 9 = some (5, 2) := by decide +kernel
theorem kp_House_init_5_2 : fpB M_House_init 5 2 = true := by decide +kernel
theorem dc_House_init_12 : decode M_House_init.2.1 12 = .ok (.aload_n 0, 1) := by decide +kernel
theorem dc_House_init_13 : decode M_House_init.2.1 13 = .ok (.bipush 10, 2) := by decide +kernel
theorem dc_House_init_15 : decode M_House_init.2.1 15 = .ok (.newarray .int, 2) := by decide +kernel
theorem dc_House_init_17 : decode M_House_init.2.1 17 = .ok (.putfield 15, 3) := by decide +kernel
theorem kf_5_15 : rF 5 15 = some (5, 3) := by decide +kernel
theorem kp_House_init_5_3 : fpB M_House_init 5 3 = true := by decide +kernel
theorem dc_House_init_20 : decode M_House_init.2.1 20 = .ok (.aload_n 0, 1) := by decide +kernel
theorem dc_House_init_21 : decode M_House_init.2.1 21 = .ok (.bipush 10, 2) := by decide +kernel
theorem dc_House_init_23 : decode M_House_init.2.1 23 = .ok (.newarray .int, 2) := by decide +kernel
theorem dc_House_init_25 : decode M_House_init.2.1 25 = .ok (.putfield 18, 3) := by decide +kernel
theorem kf_5_18 : rF 5 18 = some (5, 4) := by decide +kernel
theorem kp_House_init_5_4 : fpB M_House_init 5 4 = true := by decide +kernel
theorem dc_House_init_28 : decode M_House_init.2.1 28 = .ok (.aload_n 0, 1) := by decide +kernel
theorem dc_House_init_29 : decode M_House_init.2.1 29 = .ok (.bipush 10, 2) := by decide +kernel
theorem dc_House_init_31 : decode M_House_init.2.1 31 = .ok (.sipush 200, 3) := by decide +kernel
theorem kiR_5_4 {z : Option Nm} : fitB 5 4 (vR z) = true := fi_R (by decide +kernel)
theorem kiR_5_3 {z : Option Nm} : fitB 5 3 (vR z) = true := fi_R (by decide +kernel)
theorem kiR_5_2 {z : Option Nm} : fitB 5 2 (vR z) = true := fi_R (by decide +kernel)
theorem dc_House_init_34 : decode M_House_init.2.1 34 = .ok (.multianewarray 21 2, 4) := by decide +kernel
theorem dc_House_init_38 : decode M_House_init.2.1 38 = .ok (.putfield 23, 3) := by decide +kernel
theorem kf_5_23 : rF 5 23 = some (5, 5) := by decide +kernel
theorem kp_House_init_5_5 : fpB M_House_init 5 5 = true := by decide +kernel
theorem dc_House_init_41 : decode M_House_init.2.1 41 = .ok (.aload_n 0, 1) := by decide +kernel
theorem dc_House_init_42 : decode M_House_init.2.1 42 = .ok (.bipush 10, 2) := by decide +kernel
theorem dc_House_init_44 : decode M_House_init.2.1 44 = .ok (.newarray .int, 2) := by decide +kernel
theorem dc_House_init_46 : decode M_House_init.2.1 46 = .ok (.putfield 26, 3) := by decide +kernel
theorem kf_5_26 : rF 5 26 = some (5, 6) := by decide +kernel
theorem kp_House_init_5_6 : fpB M_House_init 5 6 = true := by decide +kernel
theorem dc_House_init_49 : decode M_House_init.2.1 49 = .ok (.aload_n 0, 1) := by decide +kernel
theorem dc_House_init_50 : decode M_House_init.2.1 50 = .ok (.new 29, 3) := by decide +kernel
theorem kn_5_29 : rN 5 29 = some 10 := by decide +kernel
theorem dc_House_init_53 : decode M_House_init.2.1 53 = .ok (.dup, 1) := by decide +kernel
theorem dc_House_init_54 : decode M_House_init.2.1 54 = .ok (.invokespecial 31, 3) := by decide +kernel
theorem km_5_31 : rM 5 31 = some (2, M_AL_init) := rM_at (j := 15) (p := 316) (by decide +kernel) rfl
theorem np_AL_init : nP M_AL_init = 0 := by decide +kernel
theorem kiR_5_6 {z : Option Nm} : fitB 5 6 (vR z) = true := fi_R (by decide +kernel)
theorem kiR_5_5 {z : Option Nm} : fitB 5 5 (vR z) = true := fi_R (by decide +kernel)
theorem dc_House_init_57 : decode M_House_init.2.1 57 = .ok (.putfield 32, 3) := by decide +kernel
theorem kf_5_32 : rF 5 32 = some (5, 7) := by decide +kernel
theorem kp_House_init_5_7 : fpB M_House_init 5 7 = true := by decide +kernel
theorem dc_House_init_60 : decode M_House_init.2.1 60 = .ok (.aload_n 0, 1) := by decide +kernel
theorem dc_House_init_61 : decode M_House_init.2.1 61 = .ok (.new 29, 3) := by decide +kernel
theorem dc_House_init_64 : decode M_House_init.2.1 64 = .ok (.dup, 1) := by decide +kernel
theorem dc_House_init_65 : decode M_House_init.2.1 65 = .ok (.invokespecial 31, 3) := by decide +kernel
theorem kiR_5_7 {z : Option Nm} : fitB 5 7 (vR z) = true := fi_R (by decide +kernel)
theorem dc_House_init_68 : decode M_House_init.2.1 68 = .ok (.putfield 36, 3) := by decide +kernel
theorem kf_5_36 : rF 5 36 = some (5, 8) := by decide +kernel
theorem kp_House_init_5_8 : fpB M_House_init 5 8 = true := by decide +kernel
theorem dc_House_init_71 : decode M_House_init.2.1 71 = .ok (.aload_n 0, 1) := by decide +kernel
theorem dc_House_init_72 : decode M_House_init.2.1 72 = .ok (.new 29, 3) := by decide +kernel
theorem dc_House_init_75 : decode M_House_init.2.1 75 = .ok (.dup, 1) := by decide +kernel
theorem dc_House_init_76 : decode M_House_init.2.1 76 = .ok (.invokespecial 31, 3) := by decide +kernel
theorem kiR_5_8 {z : Option Nm} : fitB 5 8 (vR z) = true := fi_R (by decide +kernel)
theorem dc_House_init_79 : decode M_House_init.2.1 79 = .ok (.putfield 39, 3) := by decide +kernel
theorem kf_5_39 : rF 5 39 = some (5, 9) := by decide +kernel
theorem kp_House_init_5_9 : fpB M_House_init 5 9 = true := by decide +kernel
theorem dc_House_init_82 : decode M_House_init.2.1 82 = .ok (.aload_n 0, 1) := by decide +kernel
theorem dc_House_init_83 : decode M_House_init.2.1 83 = .ok (.iconst 1, 1) := by decide +kernel
theorem dc_House_init_84 : decode M_House_init.2.1 84 = .ok (.putfield 42, 3) := by decide +kernel
theorem kf_5_42 : rF 5 42 = some (5, 11) := by decide +kernel
theorem kp_House_init_5_11 : fpB M_House_init 5 11 = true := by decide +kernel
theorem dc_House_init_87 : decode M_House_init.2.1 87 = .ok (.aload_n 0, 1) := by decide +kernel
theorem dc_House_init_88 : decode M_House_init.2.1 88 = .ok (.iload_n 1, 1) := by decide +kernel
theorem dc_House_init_89 : decode M_House_init.2.1 89 = .ok (.putfield 46, 3) := by decide +kernel
theorem kf_5_46 : rF 5 46 = some (5, 0) := by decide +kernel
theorem kp_House_init_5_0 : fpB M_House_init 5 0 = true := by decide +kernel
theorem dc_House_init_92 : decode M_House_init.2.1 92 = .ok (.aload_n 0, 1) := by decide +kernel
theorem dc_House_init_93 : decode M_House_init.2.1 93 = .ok (.iload_n 2, 1) := by decide +kernel
theorem dc_House_init_94 : decode M_House_init.2.1 94 = .ok (.putfield 50, 3) := by decide +kernel
theorem kf_5_50 : rF 5 50 = some (5, 1) := by decide +kernel
theorem kp_House_init_5_1 : fpB M_House_init 5 1 = true := by decide +kernel
theorem dc_House_init_97 : decode M_House_init.2.1 97 = .ok (.iconst 0, 1) := by decide +kernel
theorem dc_House_init_98 : decode M_House_init.2.1 98 = .ok (.istore_n 3, 1) := by decide +kernel
theorem kiI_5_1 {z : Int} : fitB 5 1 (vI z) = true := fi_I (by decide +kernel)
theorem kiI_5_0 {z : Int} : fitB 5 0 (vI z) = true := fi_I (by decide +kernel)
theorem kiZ_5_11 {z : Int} : fitB 5 11 (vI z) = true ↔ (z = 0 ∨ z = 1) := fi_Z (by decide +kernel)
theorem kiR_5_9 {z : Option Nm} : fitB 5 9 (vR z) = true := fi_R (by decide +kernel)
theorem dc_House_init_99 : decode M_House_init.2.1 99 = .ok (.iload_n 3, 1) := by decide +kernel
theorem dc_House_init_100 : decode M_House_init.2.1 100 = .ok (.bipush 10, 2) := by decide +kernel
theorem dc_House_init_102 : decode M_House_init.2.1 102 = .ok (.if_icmp .ge 16, 3) := by decide +kernel
theorem dc_House_init_118 : decode M_House_init.2.1 118 = .ok (.return_, 1) := by decide +kernel
theorem dc_House_init_105 : decode M_House_init.2.1 105 = .ok (.aload_n 0, 1) := by decide +kernel
theorem dc_House_init_106 : decode M_House_init.2.1 106 = .ok (.getfield 26, 3) := by decide +kernel
theorem dc_House_init_109 : decode M_House_init.2.1 109 = .ok (.iload_n 3, 1) := by decide +kernel
theorem dc_House_init_110 : decode M_House_init.2.1 110 = .ok (.iconst (-1), 1) := by decide +kernel
theorem dc_House_init_111 : decode M_House_init.2.1 111 = .ok (.iastore, 1) := by decide +kernel
theorem dc_House_init_112 : decode M_House_init.2.1 112 = .ok (.iinc 3 1, 3) := by decide +kernel
theorem dc_House_init_115 : decode M_House_init.2.1 115 = .ok (.goto (-16), 3) := by decide +kernel
theorem dc_AL_init_0 : decode M_AL_init.2.1 0 = .ok (.aload_n 0, 1) := by decide +kernel
theorem dc_AL_init_1 : decode M_AL_init.2.1 1 = .ok (.invokespecial 1, 3) := by decide +kernel
theorem km_10_1 : rM 10 1 = some (2, M_AbL_init) := rM_at (j := 16) (p := 319) (by decide +kernel) rfl
theorem np_AbL_init : nP M_AbL_init = 0 := by decide +kernel
theorem dc_AL_init_4 : decode M_AL_init.2.1 4 = .ok (.aload_n 0, 1) := by decide +kernel
theorem dc_AL_init_5 : decode M_AL_init.2.1 5 = .ok (.getstatic 39, 3) := by decide +kernel
theorem dc_AL_init_8 : decode M_AL_init.2.1 8 = .ok (.putfield 9, 3) := by decide +kernel
theorem kf_10_9 : rF 10 9 = some (10, 0) := by decide +kernel
theorem kp_AL_init_10_0 : fpB M_AL_init 10 0 = true := by decide +kernel
theorem dc_AL_init_11 : decode M_AL_init.2.1 11 = .ok (.return_, 1) := by decide +kernel
theorem kiR_10_0 {z : Option Nm} : fitB 10 0 (vR z) = true := fi_R (by decide +kernel)
theorem dc_AbL_init_0 : decode M_AbL_init.2.1 0 = .ok (.aload_n 0, 1) := by decide +kernel
theorem dc_AbL_init_1 : decode M_AbL_init.2.1 1 = .ok (.invokespecial 1, 3) := by decide +kernel
theorem km_12_1 : rM 12 1 = some (2, M_AbC_init) := rM_at (j := 17) (p := 322) (by decide +kernel) rfl
theorem np_AbC_init : nP M_AbC_init = 0 := by decide +kernel
theorem dc_AbL_init_4 : decode M_AbL_init.2.1 4 = .ok (.aload_n 0, 1) := by decide +kernel
theorem dc_AbL_init_5 : decode M_AbL_init.2.1 5 = .ok (.iconst 0, 1) := by decide +kernel
theorem dc_AbL_init_6 : decode M_AbL_init.2.1 6 = .ok (.putfield 7, 3) := by decide +kernel
theorem kf_12_7 : rF 12 7 = some (10, 2) := by decide +kernel
theorem kp_AbL_init_10_2 : fpB M_AbL_init 10 2 = true := by decide +kernel
theorem dc_AbL_init_9 : decode M_AbL_init.2.1 9 = .ok (.return_, 1) := by decide +kernel
theorem kiI_10_2 {z : Int} : fitB 10 2 (vI z) = true := fi_I (by decide +kernel)
theorem dc_AbC_init_0 : decode M_AbC_init.2.1 0 = .ok (.aload_n 0, 1) := by decide +kernel
theorem dc_AbC_init_1 : decode M_AbC_init.2.1 1 = .ok (.invokespecial 1, 3) := by decide +kernel
theorem km_13_1 : rM 13 1 = some (3, M_FB_init) := rM_at (j := 0) (p := 325) (by decide +kernel) rfl
theorem dc_AbC_init_4 : decode M_AbC_init.2.1 4 = .ok (.return_, 1) := by decide +kernel
theorem dc_La_contract_0 : decode M_La_contract.2.1 0 = .ok (.aload 4, 2) := by decide +kernel
theorem dc_La_contract_2 : decode M_La_contract.2.1 2 = .ok (.iconst 0, 1) := by decide +kernel
theorem dc_La_contract_3 : decode M_La_contract.2.1 3 = .ok (.aload_n 0, 1) := by decide +kernel
theorem dc_La_contract_4 : decode M_La_contract.2.1 4 = .ok (.iload_n 1, 1) := by decide +kernel
theorem dc_La_contract_5 : decode M_La_contract.2.1 5 = .ok (.iload_n 2, 1) := by decide +kernel
theorem dc_La_contract_6 : decode M_La_contract.2.1 6 = .ok (.iload_n 3, 1) := by decide +kernel
theorem dc_La_contract_7 : decode M_La_contract.2.1 7 = .ok (.invokevirtual 20, 3) := by decide +kernel
theorem km_11_20 : rM 11 20 = some (1, M_FB_contract) := rM_at (j := 19) (p := 402) (by decide +kernel) rfl
theorem np_FB_contract : nP M_FB_contract = 3 := by decide +kernel
theorem dc_La_contract_10 : decode M_La_contract.2.1 10 = .ok (.ifCond .eq 7, 3) := by decide +kernel
theorem dc_La_contract_17 : decode M_La_contract.2.1 17 = .ok (.lconst 0, 1) := by decide +kernel
theorem dc_La_contract_13 : decode M_La_contract.2.1 13 = .ok (.lconst 1, 1) := by decide +kernel
theorem dc_La_contract_14 : decode M_La_contract.2.1 14 = .ok (.goto 4, 3) := by decide +kernel
theorem dc_La_contract_18 : decode M_La_contract.2.1 18 = .ok (.lastore, 1) := by decide +kernel
theorem dc_La_contract_19 : decode M_La_contract.2.1 19 = .ok (.goto 7, 3) := by decide +kernel
theorem dc_La_contract_26 : decode M_La_contract.2.1 26 = .ok (.iconst 0, 1) := by decide +kernel
theorem dc_La_contract_27 : decode M_La_contract.2.1 27 = .ok (.ireturn, 1) := by decide +kernel
theorem dc_La_contract_22 : decode M_La_contract.2.1 22 = .ok (.astore 5, 2) := by decide +kernel
theorem dc_La_contract_24 : decode M_La_contract.2.1 24 = .ok (.iconst 1, 1) := by decide +kernel
theorem dc_La_contract_25 : decode M_La_contract.2.1 25 = .ok (.ireturn, 1) := by decide +kernel
theorem dc_FB_contract_0 : decode M_FB_contract.2.1 0 = .ok (.aload_n 0, 1) := by decide +kernel
theorem dc_FB_contract_1 : decode M_FB_contract.2.1 1 = .ok (.iload_n 1, 1) := by decide +kernel
theorem dc_FB_contract_2 : decode M_FB_contract.2.1 2 = .ok (.invokevirtual 60, 3) := by decide +kernel
theorem km_0_60 : rM 0 60 = some (1, M_FB_houseOf) := rM_at (j := 20) (p := 406) (by decide +kernel) rfl
theorem np_FB_houseOf : nP M_FB_houseOf = 1 := by decide +kernel
theorem dc_FB_contract_5 : decode M_FB_contract.2.1 5 = .ok (.astore 4, 2) := by decide +kernel
theorem dc_FB_contract_7 : decode M_FB_contract.2.1 7 = .ok (.aload_n 0, 1) := by decide +kernel
theorem dc_FB_contract_8 : decode M_FB_contract.2.1 8 = .ok (.iload_n 2, 1) := by decide +kernel
theorem dc_FB_contract_9 : decode M_FB_contract.2.1 9 = .ok (.invokevirtual 60, 3) := by decide +kernel
theorem dc_FB_contract_12 : decode M_FB_contract.2.1 12 = .ok (.astore 5, 2) := by decide +kernel
theorem dc_FB_contract_14 : decode M_FB_contract.2.1 14 = .ok (.iload_n 1, 1) := by decide +kernel
theorem dc_FB_contract_15 : decode M_FB_contract.2.1 15 = .ok (.iload_n 2, 1) := by decide +kernel
theorem dc_FB_contract_16 : decode M_FB_contract.2.1 16 = .ok (.if_icmp .eq 17, 3) := by decide +kernel
theorem dc_FB_contract_19 : decode M_FB_contract.2.1 19 = .ok (.iload_n 3, 1) := by decide +kernel
theorem dc_FB_contract_20 : decode M_FB_contract.2.1 20 = .ok (.iconst 0, 1) := by decide +kernel
theorem dc_FB_contract_21 : decode M_FB_contract.2.1 21 = .ok (.bipush 100, 2) := by decide +kernel
theorem k_bipush_100 : (Int8.ofInt 100).toInt32.toInt = 100 := by decide
theorem dc_FB_contract_23 : decode M_FB_contract.2.1 23 = .ok (.invokestatic 39, 3) := by decide +kernel
theorem dc_FB_contract_26 : decode M_FB_contract.2.1 26 = .ok (.ifCond .eq 7, 3) := by decide +kernel
theorem dc_FB_contract_29 : decode M_FB_contract.2.1 29 = .ok (.iconst 1, 1) := by decide +kernel
theorem dc_FB_contract_30 : decode M_FB_contract.2.1 30 = .ok (.goto 4, 3) := by decide +kernel
theorem dc_FB_contract_33 : decode M_FB_contract.2.1 33 = .ok (.iconst 0, 1) := by decide +kernel
theorem dc_FB_contract_34 : decode M_FB_contract.2.1 34 = .ok (.invokestatic 43, 3) := by decide +kernel
theorem dc_FB_contract_37 : decode M_FB_contract.2.1 37 = .ok (.aload 4, 2) := by decide +kernel
theorem dc_FB_contract_39 : decode M_FB_contract.2.1 39 = .ok (.iload_n 2, 1) := by decide +kernel
theorem dc_FB_contract_40 : decode M_FB_contract.2.1 40 = .ok (.iload_n 3, 1) := by decide +kernel
theorem dc_FB_contract_41 : decode M_FB_contract.2.1 41 = .ok (.invokevirtual 64, 3) := by decide +kernel
theorem km_0_64 : rM 0 64 = some (1, M_House_canAgree) := rM_at (j := 21) (p := 410) (by decide +kernel) rfl
theorem np_House_canAgree : nP M_House_canAgree = 2 := by decide +kernel
theorem dc_FB_contract_44 : decode M_FB_contract.2.1 44 = .ok (.ifCond .eq 13, 3) := by decide +kernel
theorem dc_FB_contract_47 : decode M_FB_contract.2.1 47 = .ok (.aload 5, 2) := by decide +kernel
theorem dc_FB_contract_49 : decode M_FB_contract.2.1 49 = .ok (.iload_n 1, 1) := by decide +kernel
theorem dc_FB_contract_50 : decode M_FB_contract.2.1 50 = .ok (.iload_n 3, 1) := by decide +kernel
theorem dc_FB_contract_51 : decode M_FB_contract.2.1 51 = .ok (.invokevirtual 64, 3) := by decide +kernel
theorem dc_FB_contract_54 : decode M_FB_contract.2.1 54 = .ok (.ifCond .ne 5, 3) := by decide +kernel
theorem dc_FB_contract_59 : decode M_FB_contract.2.1 59 = .ok (.aload 4, 2) := by decide +kernel
theorem dc_FB_contract_61 : decode M_FB_contract.2.1 61 = .ok (.getfield 68, 3) := by decide +kernel
theorem kf_0_68 : rF 0 68 = some (5, 2) := by decide +kernel
theorem dc_FB_contract_64 : decode M_FB_contract.2.1 64 = .ok (.iload_n 2, 1) := by decide +kernel
theorem dc_FB_contract_65 : decode M_FB_contract.2.1 65 = .ok (.iload_n 3, 1) := by decide +kernel
theorem dc_FB_contract_66 : decode M_FB_contract.2.1 66 = .ok (.iastore, 1) := by decide +kernel
theorem dc_FB_contract_67 : decode M_FB_contract.2.1 67 = .ok (.aload 5, 2) := by decide +kernel
theorem dc_FB_contract_69 : decode M_FB_contract.2.1 69 = .ok (.getfield 68, 3) := by decide +kernel
theorem dc_FB_contract_72 : decode M_FB_contract.2.1 72 = .ok (.iload_n 1, 1) := by decide +kernel
theorem dc_FB_contract_73 : decode M_FB_contract.2.1 73 = .ok (.iload_n 3, 1) := by decide +kernel
theorem dc_FB_contract_74 : decode M_FB_contract.2.1 74 = .ok (.iastore, 1) := by decide +kernel
theorem dc_FB_contract_75 : decode M_FB_contract.2.1 75 = .ok (.iconst 1, 1) := by decide +kernel
theorem dc_FB_contract_76 : decode M_FB_contract.2.1 76 = .ok (.ireturn, 1) := by decide +kernel
theorem dc_FB_contract_57 : decode M_FB_contract.2.1 57 = .ok (.iconst 0, 1) := by decide +kernel
theorem dc_FB_contract_58 : decode M_FB_contract.2.1 58 = .ok (.ireturn, 1) := by decide +kernel
theorem dc_FB_houseOf_0 : decode M_FB_houseOf.2.1 0 = .ok (.iload_n 1, 1) := by decide +kernel
theorem dc_FB_houseOf_1 : decode M_FB_houseOf.2.1 1 = .ok (.iconst 0, 1) := by decide +kernel
theorem dc_FB_houseOf_2 : decode M_FB_houseOf.2.1 2 = .ok (.bipush 9, 2) := by decide +kernel
theorem dc_FB_houseOf_4 : decode M_FB_houseOf.2.1 4 = .ok (.invokestatic 39, 3) := by decide +kernel
theorem dc_FB_houseOf_7 : decode M_FB_houseOf.2.1 7 = .ok (.ifCond .eq 12, 3) := by decide +kernel
theorem dc_FB_houseOf_19 : decode M_FB_houseOf.2.1 19 = .ok (.aconst_null, 1) := by decide +kernel
theorem dc_FB_houseOf_10 : decode M_FB_houseOf.2.1 10 = .ok (.aload_n 0, 1) := by decide +kernel
theorem dc_FB_houseOf_11 : decode M_FB_houseOf.2.1 11 = .ok (.getfield 11, 3) := by decide +kernel
theorem dc_FB_houseOf_14 : decode M_FB_houseOf.2.1 14 = .ok (.iload_n 1, 1) := by decide +kernel
theorem dc_FB_houseOf_15 : decode M_FB_houseOf.2.1 15 = .ok (.aaload, 1) := by decide +kernel
theorem dc_FB_houseOf_16 : decode M_FB_houseOf.2.1 16 = .ok (.goto 4, 3) := by decide +kernel
theorem dc_FB_houseOf_20 : decode M_FB_houseOf.2.1 20 = .ok (.astore_n 2, 1) := by decide +kernel
theorem dc_FB_houseOf_21 : decode M_FB_houseOf.2.1 21 = .ok (.aload_n 2, 1) := by decide +kernel
theorem dc_FB_houseOf_22 : decode M_FB_houseOf.2.1 22 = .ok (.ifnonnull 11, 3) := by decide +kernel
theorem dc_FB_houseOf_33 : decode M_FB_houseOf.2.1 33 = .ok (.aload_n 2, 1) := by decide +kernel
theorem dc_FB_houseOf_34 : decode M_FB_houseOf.2.1 34 = .ok (.areturn, 1) := by decide +kernel
theorem dc_FB_houseOf_25 : decode M_FB_houseOf.2.1 25 = .ok (.new 302, 3) := by decide +kernel
theorem dc_FB_houseOf_28 : decode M_FB_houseOf.2.1 28 = .ok (.dup, 1) := by decide +kernel
theorem dc_FB_houseOf_29 : decode M_FB_houseOf.2.1 29 = .ok (.invokespecial 304, 3) := by decide +kernel
theorem dc_FB_houseOf_32 : decode M_FB_houseOf.2.1 32 = .ok (.athrow, 1) := by decide +kernel
theorem dc_House_canAgree_0 : decode M_House_canAgree.2.1 0 = .ok (.iload_n 2, 1) := by decide +kernel
theorem dc_House_canAgree_1 : decode M_House_canAgree.2.1 1 = .ok (.istore_n 3, 1) := by decide +kernel
theorem dc_House_canAgree_2 : decode M_House_canAgree.2.1 2 = .ok (.iconst 0, 1) := by decide +kernel
theorem dc_House_canAgree_3 : decode M_House_canAgree.2.1 3 = .ok (.istore 4, 2) := by decide +kernel
theorem dc_House_canAgree_5 : decode M_House_canAgree.2.1 5 = .ok (.iload 4, 2) := by decide +kernel
theorem dc_House_canAgree_7 : decode M_House_canAgree.2.1 7 = .ok (.bipush 10, 2) := by decide +kernel
theorem dc_House_canAgree_9 : decode M_House_canAgree.2.1 9 = .ok (.if_icmp .ge 25, 3) := by decide +kernel
theorem dc_House_canAgree_34 : decode M_House_canAgree.2.1 34 = .ok (.iload_n 3, 1) := by decide +kernel
theorem dc_House_canAgree_35 : decode M_House_canAgree.2.1 35 = .ok (.aload_n 0, 1) := by decide +kernel
theorem dc_House_canAgree_36 : decode M_House_canAgree.2.1 36 = .ok (.getfield 50, 3) := by decide +kernel
theorem dc_House_canAgree_39 : decode M_House_canAgree.2.1 39 = .ok (.if_icmp .gt 17, 3) := by decide +kernel
theorem dc_House_canAgree_42 : decode M_House_canAgree.2.1 42 = .ok (.aload_n 0, 1) := by decide +kernel
theorem dc_House_canAgree_43 : decode M_House_canAgree.2.1 43 = .ok (.getfield 15, 3) := by decide +kernel
theorem dc_House_canAgree_46 : decode M_House_canAgree.2.1 46 = .ok (.iload_n 1, 1) := by decide +kernel
theorem dc_House_canAgree_47 : decode M_House_canAgree.2.1 47 = .ok (.iaload, 1) := by decide +kernel
theorem dc_House_canAgree_48 : decode M_House_canAgree.2.1 48 = .ok (.iload_n 2, 1) := by decide +kernel
theorem dc_House_canAgree_49 : decode M_House_canAgree.2.1 49 = .ok (.if_icmp .gt 7, 3) := by decide +kernel
theorem dc_House_canAgree_52 : decode M_House_canAgree.2.1 52 = .ok (.iconst 1, 1) := by decide +kernel
theorem dc_House_canAgree_53 : decode M_House_canAgree.2.1 53 = .ok (.goto 4, 3) := by decide +kernel
theorem dc_House_canAgree_12 : decode M_House_canAgree.2.1 12 = .ok (.iload 4, 2) := by decide +kernel
theorem dc_House_canAgree_14 : decode M_House_canAgree.2.1 14 = .ok (.iload_n 1, 1) := by decide +kernel
theorem dc_House_canAgree_15 : decode M_House_canAgree.2.1 15 = .ok (.if_icmp .eq 13, 3) := by decide +kernel
theorem dc_House_canAgree_18 : decode M_House_canAgree.2.1 18 = .ok (.iload_n 3, 1) := by decide +kernel
theorem dc_House_canAgree_19 : decode M_House_canAgree.2.1 19 = .ok (.aload_n 0, 1) := by decide +kernel
theorem dc_House_canAgree_20 : decode M_House_canAgree.2.1 20 = .ok (.getfield 9, 3) := by decide +kernel
theorem dc_House_canAgree_23 : decode M_House_canAgree.2.1 23 = .ok (.iload 4, 2) := by decide +kernel
theorem dc_House_canAgree_25 : decode M_House_canAgree.2.1 25 = .ok (.iaload, 1) := by decide +kernel
theorem dc_House_canAgree_26 : decode M_House_canAgree.2.1 26 = .ok (.iadd, 1) := by decide +kernel
theorem dc_House_canAgree_27 : decode M_House_canAgree.2.1 27 = .ok (.istore_n 3, 1) := by decide +kernel
theorem dc_House_canAgree_28 : decode M_House_canAgree.2.1 28 = .ok (.iinc 4 1, 3) := by decide +kernel
theorem dc_House_canAgree_31 : decode M_House_canAgree.2.1 31 = .ok (.goto (-26), 3) := by decide +kernel
theorem dc_House_canAgree_56 : decode M_House_canAgree.2.1 56 = .ok (.iconst 0, 1) := by decide +kernel
theorem dc_House_canAgree_57 : decode M_House_canAgree.2.1 57 = .ok (.ireturn, 1) := by decide +kernel
theorem dc_La_write_0 : decode M_La_write.2.1 0 = .ok (.aload 4, 2) := by decide +kernel
theorem dc_La_write_2 : decode M_La_write.2.1 2 = .ok (.iconst 0, 1) := by decide +kernel
theorem dc_La_write_3 : decode M_La_write.2.1 3 = .ok (.aload_n 0, 1) := by decide +kernel
theorem dc_La_write_4 : decode M_La_write.2.1 4 = .ok (.iload_n 1, 1) := by decide +kernel
theorem dc_La_write_5 : decode M_La_write.2.1 5 = .ok (.iload_n 2, 1) := by decide +kernel
theorem dc_La_write_6 : decode M_La_write.2.1 6 = .ok (.iload_n 3, 1) := by decide +kernel
theorem dc_La_write_7 : decode M_La_write.2.1 7 = .ok (.invokevirtual 24, 3) := by decide +kernel
theorem km_11_24 : rM 11 24 = some (1, M_FB_write) := rM_at (j := 23) (p := 417) (by decide +kernel) rfl
theorem np_FB_write : nP M_FB_write = 3 := by decide +kernel
theorem dc_La_write_10 : decode M_La_write.2.1 10 = .ok (.i2l, 1) := by decide +kernel
theorem dc_La_write_11 : decode M_La_write.2.1 11 = .ok (.lastore, 1) := by decide +kernel
theorem dc_La_write_12 : decode M_La_write.2.1 12 = .ok (.goto 11, 3) := by decide +kernel
theorem dc_La_write_23 : decode M_La_write.2.1 23 = .ok (.iconst 0, 1) := by decide +kernel
theorem dc_La_write_24 : decode M_La_write.2.1 24 = .ok (.ireturn, 1) := by decide +kernel
theorem dc_La_write_15 : decode M_La_write.2.1 15 = .ok (.astore 5, 2) := by decide +kernel
theorem dc_La_write_17 : decode M_La_write.2.1 17 = .ok (.iconst 1, 1) := by decide +kernel
theorem dc_La_write_18 : decode M_La_write.2.1 18 = .ok (.ireturn, 1) := by decide +kernel
theorem dc_La_write_19 : decode M_La_write.2.1 19 = .ok (.astore 5, 2) := by decide +kernel
theorem dc_La_write_21 : decode M_La_write.2.1 21 = .ok (.iconst 2, 1) := by decide +kernel
theorem dc_La_write_22 : decode M_La_write.2.1 22 = .ok (.ireturn, 1) := by decide +kernel
theorem dc_FB_write_0 : decode M_FB_write.2.1 0 = .ok (.aload_n 0, 1) := by decide +kernel
theorem dc_FB_write_1 : decode M_FB_write.2.1 1 = .ok (.iload_n 1, 1) := by decide +kernel
theorem dc_FB_write_2 : decode M_FB_write.2.1 2 = .ok (.invokevirtual 60, 3) := by decide +kernel
theorem dc_FB_write_5 : decode M_FB_write.2.1 5 = .ok (.astore 4, 2) := by decide +kernel
theorem dc_FB_write_7 : decode M_FB_write.2.1 7 = .ok (.iload_n 2, 1) := by decide +kernel
theorem dc_FB_write_8 : decode M_FB_write.2.1 8 = .ok (.invokestatic 71, 3) := by decide +kernel
theorem km_0_71 : rM 0 71 = some (0, M_FB_isTag) := rM_at (j := 24) (p := 421) (by decide +kernel) rfl
theorem np_FB_isTag : nP M_FB_isTag = 1 := by decide +kernel
theorem dc_FB_write_11 : decode M_FB_write.2.1 11 = .ok (.ifCond .eq 18, 3) := by decide +kernel
theorem dc_FB_write_14 : decode M_FB_write.2.1 14 = .ok (.iload_n 3, 1) := by decide +kernel
theorem dc_FB_write_15 : decode M_FB_write.2.1 15 = .ok (.iconst 0, 1) := by decide +kernel
theorem dc_FB_write_16 : decode M_FB_write.2.1 16 = .ok (.sipush 255, 3) := by decide +kernel
theorem dc_FB_write_19 : decode M_FB_write.2.1 19 = .ok (.invokestatic 39, 3) := by decide +kernel
theorem dc_FB_write_22 : decode M_FB_write.2.1 22 = .ok (.ifCond .eq 7, 3) := by decide +kernel
theorem dc_FB_write_25 : decode M_FB_write.2.1 25 = .ok (.iconst 1, 1) := by decide +kernel
theorem dc_FB_write_26 : decode M_FB_write.2.1 26 = .ok (.goto 4, 3) := by decide +kernel
theorem dc_FB_write_29 : decode M_FB_write.2.1 29 = .ok (.iconst 0, 1) := by decide +kernel
theorem dc_FB_write_30 : decode M_FB_write.2.1 30 = .ok (.invokestatic 43, 3) := by decide +kernel
theorem dc_FB_write_33 : decode M_FB_write.2.1 33 = .ok (.aload 4, 2) := by decide +kernel
theorem dc_FB_write_35 : decode M_FB_write.2.1 35 = .ok (.getfield 75, 3) := by decide +kernel
theorem kf_0_75 : rF 0 75 = some (5, 12) := by decide +kernel
theorem dc_FB_write_38 : decode M_FB_write.2.1 38 = .ok (.ifCond .ne 20, 3) := by decide +kernel
theorem dc_FB_write_41 : decode M_FB_write.2.1 41 = .ok (.aload 4, 2) := by decide +kernel
theorem dc_FB_write_43 : decode M_FB_write.2.1 43 = .ok (.getfield 78, 3) := by decide +kernel
theorem kf_0_78 : rF 0 78 = some (5, 6) := by decide +kernel
theorem dc_FB_write_46 : decode M_FB_write.2.1 46 = .ok (.iload_n 2, 1) := by decide +kernel
theorem dc_FB_write_47 : decode M_FB_write.2.1 47 = .ok (.iaload, 1) := by decide +kernel
theorem dc_FB_write_48 : decode M_FB_write.2.1 48 = .ok (.sipush 200, 3) := by decide +kernel
theorem dc_FB_write_51 : decode M_FB_write.2.1 51 = .ok (.if_icmp .ge 7, 3) := by decide +kernel
theorem dc_FB_write_54 : decode M_FB_write.2.1 54 = .ok (.iconst 1, 1) := by decide +kernel
theorem dc_FB_write_55 : decode M_FB_write.2.1 55 = .ok (.goto 4, 3) := by decide +kernel
theorem dc_FB_write_58 : decode M_FB_write.2.1 58 = .ok (.iconst 0, 1) := by decide +kernel
theorem dc_FB_write_59 : decode M_FB_write.2.1 59 = .ok (.invokestatic 51, 3) := by decide +kernel
theorem dc_FB_write_62 : decode M_FB_write.2.1 62 = .ok (.aload 4, 2) := by decide +kernel
theorem dc_FB_write_64 : decode M_FB_write.2.1 64 = .ok (.getfield 78, 3) := by decide +kernel
theorem dc_FB_write_67 : decode M_FB_write.2.1 67 = .ok (.iload_n 2, 1) := by decide +kernel
theorem dc_FB_write_68 : decode M_FB_write.2.1 68 = .ok (.iaload, 1) := by decide +kernel
theorem dc_FB_write_69 : decode M_FB_write.2.1 69 = .ok (.iconst 0, 1) := by decide +kernel
theorem dc_FB_write_70 : decode M_FB_write.2.1 70 = .ok (.invokestatic 81, 3) := by decide +kernel
theorem km_0_81 : rM 0 81 = some (7, M_FB_init) := rM_at (j := 0) (p := 424) (by decide +kernel) rfl
theorem dc_FB_write_73 : decode M_FB_write.2.1 73 = .ok (.istore 5, 2) := by decide +kernel
theorem dc_FB_write_75 : decode M_FB_write.2.1 75 = .ok (.aload 4, 2) := by decide +kernel
theorem dc_FB_write_77 : decode M_FB_write.2.1 77 = .ok (.getfield 87, 3) := by decide +kernel
theorem kf_0_87 : rF 0 87 = some (5, 5) := by decide +kernel
theorem dc_FB_write_80 : decode M_FB_write.2.1 80 = .ok (.iload_n 2, 1) := by decide +kernel
theorem dc_FB_write_81 : decode M_FB_write.2.1 81 = .ok (.aaload, 1) := by decide +kernel
theorem dc_FB_write_82 : decode M_FB_write.2.1 82 = .ok (.iload 5, 2) := by decide +kernel
theorem dc_FB_write_84 : decode M_FB_write.2.1 84 = .ok (.iload_n 3, 1) := by decide +kernel
theorem dc_FB_write_85 : decode M_FB_write.2.1 85 = .ok (.iastore, 1) := by decide +kernel
theorem dc_FB_write_86 : decode M_FB_write.2.1 86 = .ok (.aload 4, 2) := by decide +kernel
theorem dc_FB_write_88 : decode M_FB_write.2.1 88 = .ok (.getfield 78, 3) := by decide +kernel
theorem dc_FB_write_91 : decode M_FB_write.2.1 91 = .ok (.iload_n 2, 1) := by decide +kernel
theorem dc_FB_write_92 : decode M_FB_write.2.1 92 = .ok (.iload 5, 2) := by decide +kernel
theorem dc_FB_write_94 : decode M_FB_write.2.1 94 = .ok (.iconst 1, 1) := by decide +kernel
theorem dc_FB_write_95 : decode M_FB_write.2.1 95 = .ok (.iadd, 1) := by decide +kernel
theorem dc_FB_write_96 : decode M_FB_write.2.1 96 = .ok (.iastore, 1) := by decide +kernel
theorem dc_FB_write_97 : decode M_FB_write.2.1 97 = .ok (.iload 5, 2) := by decide +kernel
theorem dc_FB_write_99 : decode M_FB_write.2.1 99 = .ok (.iconst 1, 1) := by decide +kernel
theorem dc_FB_write_100 : decode M_FB_write.2.1 100 = .ok (.iadd, 1) := by decide +kernel
theorem dc_FB_write_101 : decode M_FB_write.2.1 101 = .ok (.ireturn, 1) := by decide +kernel
theorem dc_FB_isTag_0 : decode M_FB_isTag.2.1 0 = .ok (.iload_n 0, 1) := by decide +kernel
theorem dc_FB_isTag_1 : decode M_FB_isTag.2.1 1 = .ok (.iconst 0, 1) := by decide +kernel
theorem dc_FB_isTag_2 : decode M_FB_isTag.2.1 2 = .ok (.bipush 9, 2) := by decide +kernel
theorem dc_FB_isTag_4 : decode M_FB_isTag.2.1 4 = .ok (.invokestatic 39, 3) := by decide +kernel
theorem dc_FB_isTag_7 : decode M_FB_isTag.2.1 7 = .ok (.ireturn, 1) := by decide +kernel
theorem dc_Ma_max_0 : decode M_Ma_max.2.1 0 = .ok (.iload_n 0, 1) := by decide +kernel
theorem dc_Ma_max_1 : decode M_Ma_max.2.1 1 = .ok (.iload_n 1, 1) := by decide +kernel
theorem dc_Ma_max_2 : decode M_Ma_max.2.1 2 = .ok (.if_icmp .lt 7, 3) := by decide +kernel
theorem dc_Ma_max_9 : decode M_Ma_max.2.1 9 = .ok (.iload_n 1, 1) := by decide +kernel
theorem dc_Ma_max_5 : decode M_Ma_max.2.1 5 = .ok (.iload_n 0, 1) := by decide +kernel
theorem dc_Ma_max_6 : decode M_Ma_max.2.1 6 = .ok (.goto 4, 3) := by decide +kernel
theorem dc_Ma_max_10 : decode M_Ma_max.2.1 10 = .ok (.ireturn, 1) := by decide +kernel
theorem dc_La_file_0 : decode M_La_file.2.1 0 = .ok (.aload 4, 2) := by decide +kernel
theorem dc_La_file_2 : decode M_La_file.2.1 2 = .ok (.iconst 0, 1) := by decide +kernel
theorem dc_La_file_3 : decode M_La_file.2.1 3 = .ok (.aload_n 0, 1) := by decide +kernel
theorem dc_La_file_4 : decode M_La_file.2.1 4 = .ok (.iload_n 1, 1) := by decide +kernel
theorem dc_La_file_5 : decode M_La_file.2.1 5 = .ok (.iload_n 2, 1) := by decide +kernel
theorem dc_La_file_6 : decode M_La_file.2.1 6 = .ok (.iload_n 3, 1) := by decide +kernel
theorem dc_La_file_7 : decode M_La_file.2.1 7 = .ok (.invokevirtual 28, 3) := by decide +kernel
theorem km_11_28 : rM 11 28 = some (1, M_FB_file) := rM_at (j := 26) (p := 430) (by decide +kernel) rfl
theorem np_FB_file : nP M_FB_file = 3 := by decide +kernel
theorem dc_La_file_10 : decode M_La_file.2.1 10 = .ok (.ifCond .eq 7, 3) := by decide +kernel
theorem dc_La_file_17 : decode M_La_file.2.1 17 = .ok (.lconst 0, 1) := by decide +kernel
theorem dc_La_file_13 : decode M_La_file.2.1 13 = .ok (.lconst 1, 1) := by decide +kernel
theorem dc_La_file_14 : decode M_La_file.2.1 14 = .ok (.goto 4, 3) := by decide +kernel
theorem dc_La_file_18 : decode M_La_file.2.1 18 = .ok (.lastore, 1) := by decide +kernel
theorem dc_La_file_19 : decode M_La_file.2.1 19 = .ok (.goto 11, 3) := by decide +kernel
theorem dc_La_file_30 : decode M_La_file.2.1 30 = .ok (.iconst 0, 1) := by decide +kernel
theorem dc_La_file_31 : decode M_La_file.2.1 31 = .ok (.ireturn, 1) := by decide +kernel
theorem dc_La_file_22 : decode M_La_file.2.1 22 = .ok (.astore 5, 2) := by decide +kernel
theorem dc_La_file_24 : decode M_La_file.2.1 24 = .ok (.iconst 1, 1) := by decide +kernel
theorem dc_La_file_25 : decode M_La_file.2.1 25 = .ok (.ireturn, 1) := by decide +kernel
theorem dc_La_file_26 : decode M_La_file.2.1 26 = .ok (.astore 5, 2) := by decide +kernel
theorem dc_La_file_28 : decode M_La_file.2.1 28 = .ok (.iconst 2, 1) := by decide +kernel
theorem dc_La_file_29 : decode M_La_file.2.1 29 = .ok (.ireturn, 1) := by decide +kernel
theorem dc_FB_file_0 : decode M_FB_file.2.1 0 = .ok (.aload_n 0, 1) := by decide +kernel
theorem dc_FB_file_1 : decode M_FB_file.2.1 1 = .ok (.iload_n 1, 1) := by decide +kernel
theorem dc_FB_file_2 : decode M_FB_file.2.1 2 = .ok (.invokevirtual 60, 3) := by decide +kernel
theorem dc_FB_file_5 : decode M_FB_file.2.1 5 = .ok (.astore 4, 2) := by decide +kernel
theorem dc_FB_file_7 : decode M_FB_file.2.1 7 = .ok (.iload_n 2, 1) := by decide +kernel
theorem dc_FB_file_8 : decode M_FB_file.2.1 8 = .ok (.invokestatic 71, 3) := by decide +kernel
theorem dc_FB_file_11 : decode M_FB_file.2.1 11 = .ok (.invokestatic 43, 3) := by decide +kernel
theorem dc_FB_file_14 : decode M_FB_file.2.1 14 = .ok (.aload 4, 2) := by decide +kernel
theorem dc_FB_file_16 : decode M_FB_file.2.1 16 = .ok (.getfield 75, 3) := by decide +kernel
theorem dc_FB_file_19 : decode M_FB_file.2.1 19 = .ok (.ifCond .ne 7, 3) := by decide +kernel
theorem dc_FB_file_26 : decode M_FB_file.2.1 26 = .ok (.iconst 0, 1) := by decide +kernel
theorem dc_FB_file_22 : decode M_FB_file.2.1 22 = .ok (.iconst 1, 1) := by decide +kernel
theorem dc_FB_file_23 : decode M_FB_file.2.1 23 = .ok (.goto 4, 3) := by decide +kernel
theorem dc_FB_file_27 : decode M_FB_file.2.1 27 = .ok (.invokestatic 51, 3) := by decide +kernel
theorem dc_FB_file_30 : decode M_FB_file.2.1 30 = .ok (.aload 4, 2) := by decide +kernel
theorem dc_FB_file_32 : decode M_FB_file.2.1 32 = .ok (.iload_n 2, 1) := by decide +kernel
theorem dc_FB_file_33 : decode M_FB_file.2.1 33 = .ok (.invokevirtual 91, 3) := by decide +kernel
theorem km_0_91 : rM 0 91 = some (1, M_House_hasFile) := rM_at (j := 27) (p := 434) (by decide +kernel) rfl
theorem np_House_hasFile : nP M_House_hasFile = 1 := by decide +kernel
theorem dc_FB_file_36 : decode M_FB_file.2.1 36 = .ok (.istore 5, 2) := by decide +kernel
theorem dc_FB_file_38 : decode M_FB_file.2.1 38 = .ok (.aload 4, 2) := by decide +kernel
theorem dc_FB_file_40 : decode M_FB_file.2.1 40 = .ok (.getfield 78, 3) := by decide +kernel
theorem dc_FB_file_43 : decode M_FB_file.2.1 43 = .ok (.iload_n 2, 1) := by decide +kernel
theorem dc_FB_file_44 : decode M_FB_file.2.1 44 = .ok (.iload_n 3, 1) := by decide +kernel
theorem dc_FB_file_45 : decode M_FB_file.2.1 45 = .ok (.ifCond .eq 7, 3) := by decide +kernel
theorem dc_FB_file_52 : decode M_FB_file.2.1 52 = .ok (.iconst (-1), 1) := by decide +kernel
theorem dc_FB_file_48 : decode M_FB_file.2.1 48 = .ok (.iconst 0, 1) := by decide +kernel
theorem dc_FB_file_49 : decode M_FB_file.2.1 49 = .ok (.goto 4, 3) := by decide +kernel
theorem dc_FB_file_53 : decode M_FB_file.2.1 53 = .ok (.iastore, 1) := by decide +kernel
theorem dc_FB_file_54 : decode M_FB_file.2.1 54 = .ok (.iload 5, 2) := by decide +kernel
theorem dc_FB_file_56 : decode M_FB_file.2.1 56 = .ok (.ireturn, 1) := by decide +kernel
theorem dc_House_hasFile_0 : decode M_House_hasFile.2.1 0 = .ok (.aload_n 0, 1) := by decide +kernel
theorem dc_House_hasFile_1 : decode M_House_hasFile.2.1 1 = .ok (.getfield 26, 3) := by decide +kernel
theorem dc_House_hasFile_4 : decode M_House_hasFile.2.1 4 = .ok (.iload_n 1, 1) := by decide +kernel
theorem dc_House_hasFile_5 : decode M_House_hasFile.2.1 5 = .ok (.iaload, 1) := by decide +kernel
theorem dc_House_hasFile_6 : decode M_House_hasFile.2.1 6 = .ok (.iconst (-1), 1) := by decide +kernel
theorem dc_House_hasFile_7 : decode M_House_hasFile.2.1 7 = .ok (.if_icmp .eq 7, 3) := by decide +kernel
theorem dc_House_hasFile_14 : decode M_House_hasFile.2.1 14 = .ok (.iconst 0, 1) := by decide +kernel
theorem dc_House_hasFile_10 : decode M_House_hasFile.2.1 10 = .ok (.iconst 1, 1) := by decide +kernel
theorem dc_House_hasFile_11 : decode M_House_hasFile.2.1 11 = .ok (.goto 4, 3) := by decide +kernel
theorem dc_House_hasFile_15 : decode M_House_hasFile.2.1 15 = .ok (.ireturn, 1) := by decide +kernel
theorem dc_La_seal_0 : decode M_La_seal.2.1 0 = .ok (.aload_n 2, 1) := by decide +kernel
theorem dc_La_seal_1 : decode M_La_seal.2.1 1 = .ok (.iconst 0, 1) := by decide +kernel
theorem dc_La_seal_2 : decode M_La_seal.2.1 2 = .ok (.aload_n 0, 1) := by decide +kernel
theorem dc_La_seal_3 : decode M_La_seal.2.1 3 = .ok (.iload_n 1, 1) := by decide +kernel
theorem dc_La_seal_4 : decode M_La_seal.2.1 4 = .ok (.invokevirtual 32, 3) := by decide +kernel
theorem km_11_32 : rM 11 32 = some (1, M_FB_seal) := rM_at (j := 29) (p := 441) (by decide +kernel) rfl
theorem np_FB_seal : nP M_FB_seal = 1 := by decide +kernel
theorem dc_La_seal_7 : decode M_La_seal.2.1 7 = .ok (.i2l, 1) := by decide +kernel
theorem dc_La_seal_8 : decode M_La_seal.2.1 8 = .ok (.lastore, 1) := by decide +kernel
theorem dc_La_seal_9 : decode M_La_seal.2.1 9 = .ok (.goto 9, 3) := by decide +kernel
theorem dc_La_seal_18 : decode M_La_seal.2.1 18 = .ok (.iconst 0, 1) := by decide +kernel
theorem dc_La_seal_19 : decode M_La_seal.2.1 19 = .ok (.ireturn, 1) := by decide +kernel
theorem dc_La_seal_12 : decode M_La_seal.2.1 12 = .ok (.astore_n 3, 1) := by decide +kernel
theorem dc_La_seal_13 : decode M_La_seal.2.1 13 = .ok (.iconst 1, 1) := by decide +kernel
theorem dc_La_seal_14 : decode M_La_seal.2.1 14 = .ok (.ireturn, 1) := by decide +kernel
theorem dc_La_seal_15 : decode M_La_seal.2.1 15 = .ok (.astore_n 3, 1) := by decide +kernel
theorem dc_La_seal_16 : decode M_La_seal.2.1 16 = .ok (.iconst 2, 1) := by decide +kernel
theorem dc_La_seal_17 : decode M_La_seal.2.1 17 = .ok (.ireturn, 1) := by decide +kernel
theorem dc_FB_seal_0 : decode M_FB_seal.2.1 0 = .ok (.aload_n 0, 1) := by decide +kernel
theorem dc_FB_seal_1 : decode M_FB_seal.2.1 1 = .ok (.iload_n 1, 1) := by decide +kernel
theorem dc_FB_seal_2 : decode M_FB_seal.2.1 2 = .ok (.invokevirtual 60, 3) := by decide +kernel
theorem dc_FB_seal_5 : decode M_FB_seal.2.1 5 = .ok (.astore_n 2, 1) := by decide +kernel
theorem dc_FB_seal_6 : decode M_FB_seal.2.1 6 = .ok (.aload_n 2, 1) := by decide +kernel
theorem dc_FB_seal_7 : decode M_FB_seal.2.1 7 = .ok (.getfield 75, 3) := by decide +kernel
theorem dc_FB_seal_10 : decode M_FB_seal.2.1 10 = .ok (.ifCond .ne 7, 3) := by decide +kernel
theorem dc_FB_seal_17 : decode M_FB_seal.2.1 17 = .ok (.iconst 0, 1) := by decide +kernel
theorem dc_FB_seal_13 : decode M_FB_seal.2.1 13 = .ok (.iconst 1, 1) := by decide +kernel
theorem dc_FB_seal_14 : decode M_FB_seal.2.1 14 = .ok (.goto 4, 3) := by decide +kernel
theorem dc_FB_seal_18 : decode M_FB_seal.2.1 18 = .ok (.invokestatic 51, 3) := by decide +kernel
theorem dc_FB_seal_21 : decode M_FB_seal.2.1 21 = .ok (.aload_n 2, 1) := by decide +kernel
theorem dc_FB_seal_22 : decode M_FB_seal.2.1 22 = .ok (.getfield 94, 3) := by decide +kernel
theorem kf_0_94 : rF 0 94 = some (5, 9) := by decide +kernel
theorem dc_FB_seal_25 : decode M_FB_seal.2.1 25 = .ok (.invokevirtual 98, 3) := by decide +kernel
theorem km_0_98 : rM 0 98 = some (1, M_AL_size) := rM_at (j := 30) (p := 445) (by decide +kernel) rfl
theorem np_AL_size : nP M_AL_size = 0 := by decide +kernel
theorem dc_FB_seal_28 : decode M_FB_seal.2.1 28 = .ok (.istore_n 3, 1) := by decide +kernel
theorem dc_FB_seal_29 : decode M_FB_seal.2.1 29 = .ok (.aload_n 2, 1) := by decide +kernel
theorem dc_FB_seal_30 : decode M_FB_seal.2.1 30 = .ok (.getfield 104, 3) := by decide +kernel
theorem kf_0_104 : rF 0 104 = some (5, 10) := by decide +kernel
theorem dc_FB_seal_33 : decode M_FB_seal.2.1 33 = .ok (.bipush 6, 2) := by decide +kernel
theorem dc_FB_seal_35 : decode M_FB_seal.2.1 35 = .ok (.if_icmp .eq 9, 3) := by decide +kernel
theorem dc_FB_seal_38 : decode M_FB_seal.2.1 38 = .ok (.iload_n 3, 1) := by decide +kernel
theorem dc_FB_seal_39 : decode M_FB_seal.2.1 39 = .ok (.bipush 30, 2) := by decide +kernel
theorem dc_FB_seal_41 : decode M_FB_seal.2.1 41 = .ok (.if_icmp .lt 5, 3) := by decide +kernel
theorem dc_FB_seal_46 : decode M_FB_seal.2.1 46 = .ok (.aload_n 2, 1) := by decide +kernel
theorem dc_FB_seal_47 : decode M_FB_seal.2.1 47 = .ok (.getfield 108, 3) := by decide +kernel
theorem kf_0_108 : rF 0 108 = some (5, 7) := by decide +kernel
theorem dc_FB_seal_50 : decode M_FB_seal.2.1 50 = .ok (.invokevirtual 98, 3) := by decide +kernel
theorem dc_FB_seal_44 : decode M_FB_seal.2.1 44 = .ok (.iconst (-1), 1) := by decide +kernel
theorem dc_FB_seal_45 : decode M_FB_seal.2.1 45 = .ok (.ireturn, 1) := by decide +kernel
theorem dc_FB_seal_53 : decode M_FB_seal.2.1 53 = .ok (.istore 4, 2) := by decide +kernel
theorem dc_FB_seal_55 : decode M_FB_seal.2.1 55 = .ok (.aload_n 0, 1) := by decide +kernel
theorem dc_FB_seal_56 : decode M_FB_seal.2.1 56 = .ok (.getfield 25, 3) := by decide +kernel
theorem dc_FB_seal_59 : decode M_FB_seal.2.1 59 = .ok (.aload_n 2, 1) := by decide +kernel
theorem dc_FB_seal_60 : decode M_FB_seal.2.1 60 = .ok (.invokevirtual 111, 3) := by decide +kernel
theorem km_0_111 : rM 0 111 = some (1, M_Draft_lay) := rM_at (j := 31) (p := 449) (by decide +kernel) rfl
theorem np_Draft_lay : nP M_Draft_lay = 1 := by decide +kernel
theorem dc_FB_seal_63 : decode M_FB_seal.2.1 63 = .ok (.ifCond .ne 11, 3) := by decide +kernel
theorem dc_FB_seal_74 : decode M_FB_seal.2.1 74 = .ok (.aload_n 2, 1) := by decide +kernel
theorem dc_FB_seal_75 : decode M_FB_seal.2.1 75 = .ok (.aload_n 0, 1) := by decide +kernel
theorem dc_FB_seal_76 : decode M_FB_seal.2.1 76 = .ok (.getfield 25, 3) := by decide +kernel
theorem dc_FB_seal_79 : decode M_FB_seal.2.1 79 = .ok (.getfield 119, 3) := by decide +kernel
theorem kf_0_119 : rF 0 119 = some (3, 3) := by decide +kernel
theorem dc_FB_seal_82 : decode M_FB_seal.2.1 82 = .ok (.iconst 1, 1) := by decide +kernel
theorem dc_FB_seal_83 : decode M_FB_seal.2.1 83 = .ok (.iadd, 1) := by decide +kernel
theorem dc_FB_seal_84 : decode M_FB_seal.2.1 84 = .ok (.aload_n 0, 1) := by decide +kernel
theorem dc_FB_seal_85 : decode M_FB_seal.2.1 85 = .ok (.getfield 18, 3) := by decide +kernel
theorem dc_FB_seal_88 : decode M_FB_seal.2.1 88 = .ok (.invokevirtual 122, 3) := by decide +kernel
theorem km_0_122 : rM 0 122 = some (1, M_House_addSegments) := rM_at (j := 53) (p := 585) (by decide +kernel) rfl
theorem np_House_addSegments : nP M_House_addSegments = 2 := by decide +kernel
theorem dc_FB_seal_66 : decode M_FB_seal.2.1 66 = .ok (.aload_n 2, 1) := by decide +kernel
theorem dc_FB_seal_67 : decode M_FB_seal.2.1 67 = .ok (.iload 4, 2) := by decide +kernel
theorem dc_FB_seal_69 : decode M_FB_seal.2.1 69 = .ok (.invokevirtual 115, 3) := by decide +kernel
theorem km_0_115 : rM 0 115 = some (1, M_House_dropChunksFrom) := rM_at (j := 50) (p := 572) (by decide +kernel) rfl
theorem np_House_dropChunksFrom : nP M_House_dropChunksFrom = 1 := by decide +kernel
theorem dc_FB_seal_72 : decode M_FB_seal.2.1 72 = .ok (.iconst (-1), 1) := by decide +kernel
theorem dc_FB_seal_73 : decode M_FB_seal.2.1 73 = .ok (.ireturn, 1) := by decide +kernel
theorem dc_FB_seal_91 : decode M_FB_seal.2.1 91 = .ok (.aload_n 2, 1) := by decide +kernel
theorem dc_FB_seal_92 : decode M_FB_seal.2.1 92 = .ok (.iload 4, 2) := by decide +kernel
theorem dc_FB_seal_94 : decode M_FB_seal.2.1 94 = .ok (.invokevirtual 126, 3) := by decide +kernel
theorem km_0_126 : rM 0 126 = some (1, M_House_fillSegments) := rM_at (j := 56) (p := 652) (by decide +kernel) rfl
theorem np_House_fillSegments : nP M_House_fillSegments = 1 := by decide +kernel
theorem dc_FB_seal_97 : decode M_FB_seal.2.1 97 = .ok (.aload_n 2, 1) := by decide +kernel
theorem dc_FB_seal_98 : decode M_FB_seal.2.1 98 = .ok (.new 129, 3) := by decide +kernel
theorem kn_0_129 : rN 0 129 = some 8 := by decide +kernel
theorem dc_FB_seal_101 : decode M_FB_seal.2.1 101 = .ok (.dup, 1) := by decide +kernel
theorem dc_FB_seal_102 : decode M_FB_seal.2.1 102 = .ok (.aload_n 0, 1) := by decide +kernel
theorem dc_FB_seal_103 : decode M_FB_seal.2.1 103 = .ok (.getfield 25, 3) := by decide +kernel
theorem dc_FB_seal_106 : decode M_FB_seal.2.1 106 = .ok (.aload_n 2, 1) := by decide +kernel
theorem dc_FB_seal_107 : decode M_FB_seal.2.1 107 = .ok (.invokespecial 131, 3) := by decide +kernel
theorem km_0_131 : rM 0 131 = some (2, M_Snapshot_init) := rM_at (j := 58) (p := 663) (by decide +kernel) rfl
theorem np_Snapshot_init : nP M_Snapshot_init = 2 := by decide +kernel
theorem dc_FB_seal_110 : decode M_FB_seal.2.1 110 = .ok (.invokevirtual 134, 3) := by decide +kernel
theorem km_0_134 : rM 0 134 = some (1, M_House_addSnapshot) := rM_at (j := 59) (p := 695) (by decide +kernel) rfl
theorem np_House_addSnapshot : nP M_House_addSnapshot = 1 := by decide +kernel
theorem dc_FB_seal_113 : decode M_FB_seal.2.1 113 = .ok (.aload_n 0, 1) := by decide +kernel
theorem dc_FB_seal_114 : decode M_FB_seal.2.1 114 = .ok (.iconst 1, 1) := by decide +kernel
theorem dc_FB_seal_115 : decode M_FB_seal.2.1 115 = .ok (.putfield 47, 3) := by decide +kernel
theorem kp_FB_seal_0_7 : fpB M_FB_seal 0 7 = true := by decide +kernel
theorem dc_FB_seal_118 : decode M_FB_seal.2.1 118 = .ok (.iload_n 3, 1) := by decide +kernel
theorem dc_FB_seal_119 : decode M_FB_seal.2.1 119 = .ok (.ireturn, 1) := by decide +kernel
theorem kiZ_0_7 {z : Int} : fitB 0 7 (vI z) = true ↔ (z = 0 ∨ z = 1) := fi_Z (by decide +kernel)
theorem dc_AL_size_0 : decode M_AL_size.2.1 0 = .ok (.aload_n 0, 1) := by decide +kernel
theorem dc_AL_size_1 : decode M_AL_size.2.1 1 = .ok (.getfield 48, 3) := by decide +kernel
theorem kf_10_48 : rF 10 48 = some (10, 1) := by decide +kernel
theorem dc_AL_size_4 : decode M_AL_size.2.1 4 = .ok (.ireturn, 1) := by decide +kernel
theorem dc_Draft_lay_0 : decode M_Draft_lay.2.1 0 = .ok (.aload_n 0, 1) := by decide +kernel
theorem dc_Draft_lay_1 : decode M_Draft_lay.2.1 1 = .ok (.iconst 0, 1) := by decide +kernel
theorem dc_Draft_lay_2 : decode M_Draft_lay.2.1 2 = .ok (.putfield 21, 3) := by decide +kernel
theorem kf_3_21 : rF 3 21 = some (3, 2) := by decide +kernel
theorem kp_Draft_lay_3_2 : fpB M_Draft_lay 3 2 = true := by decide +kernel
theorem dc_Draft_lay_5 : decode M_Draft_lay.2.1 5 = .ok (.aload_n 0, 1) := by decide +kernel
theorem dc_Draft_lay_6 : decode M_Draft_lay.2.1 6 = .ok (.aload_n 1, 1) := by decide +kernel
theorem dc_Draft_lay_7 : decode M_Draft_lay.2.1 7 = .ok (.getfield 25, 3) := by decide +kernel
theorem kf_3_25 : rF 3 25 = some (5, 8) := by decide +kernel
theorem dc_Draft_lay_10 : decode M_Draft_lay.2.1 10 = .ok (.invokevirtual 31, 3) := by decide +kernel
theorem km_3_31 : rM 3 31 = some (1, M_AL_size) := rM_at (j := 30) (p := 453) (by decide +kernel) rfl
theorem kiI_3_2 {z : Int} : fitB 3 2 (vI z) = true := fi_I (by decide +kernel)
theorem dc_Draft_lay_13 : decode M_Draft_lay.2.1 13 = .ok (.iconst 1, 1) := by decide +kernel
theorem dc_Draft_lay_14 : decode M_Draft_lay.2.1 14 = .ok (.isub, 1) := by decide +kernel
theorem dc_Draft_lay_15 : decode M_Draft_lay.2.1 15 = .ok (.putfield 36, 3) := by decide +kernel
theorem kf_3_36 : rF 3 36 = some (3, 3) := by decide +kernel
theorem kp_Draft_lay_3_3 : fpB M_Draft_lay 3 3 = true := by decide +kernel
theorem dc_Draft_lay_18 : decode M_Draft_lay.2.1 18 = .ok (.aload_n 0, 1) := by decide +kernel
theorem dc_Draft_lay_19 : decode M_Draft_lay.2.1 19 = .ok (.bipush 60, 2) := by decide +kernel
theorem dc_Draft_lay_21 : decode M_Draft_lay.2.1 21 = .ok (.putfield 39, 3) := by decide +kernel
theorem kf_3_39 : rF 3 39 = some (3, 4) := by decide +kernel
theorem kp_Draft_lay_3_4 : fpB M_Draft_lay 3 4 = true := by decide +kernel
theorem dc_Draft_lay_24 : decode M_Draft_lay.2.1 24 = .ok (.iconst 0, 1) := by decide +kernel
theorem dc_Draft_lay_25 : decode M_Draft_lay.2.1 25 = .ok (.istore_n 2, 1) := by decide +kernel
theorem kiI_3_4 {z : Int} : fitB 3 4 (vI z) = true := fi_I (by decide +kernel)
theorem kiI_3_3 {z : Int} : fitB 3 3 (vI z) = true := fi_I (by decide +kernel)
theorem dc_Draft_lay_26 : decode M_Draft_lay.2.1 26 = .ok (.iload_n 2, 1) := by decide +kernel
theorem dc_Draft_lay_27 : decode M_Draft_lay.2.1 27 = .ok (.bipush 10, 2) := by decide +kernel
theorem dc_Draft_lay_29 : decode M_Draft_lay.2.1 29 = .ok (.if_icmp .ge 41, 3) := by decide +kernel
theorem dc_Draft_lay_70 : decode M_Draft_lay.2.1 70 = .ok (.aload_n 0, 1) := by decide +kernel
theorem dc_Draft_lay_71 : decode M_Draft_lay.2.1 71 = .ok (.getfield 17, 3) := by decide +kernel
theorem dc_Draft_lay_74 : decode M_Draft_lay.2.1 74 = .ok (.bipush 10, 2) := by decide +kernel
theorem dc_Draft_lay_76 : decode M_Draft_lay.2.1 76 = .ok (.aload_n 0, 1) := by decide +kernel
theorem dc_Draft_lay_77 : decode M_Draft_lay.2.1 77 = .ok (.getfield 21, 3) := by decide +kernel
theorem dc_Draft_lay_80 : decode M_Draft_lay.2.1 80 = .ok (.iastore, 1) := by decide +kernel
theorem dc_Draft_lay_81 : decode M_Draft_lay.2.1 81 = .ok (.iconst 1, 1) := by decide +kernel
theorem dc_Draft_lay_82 : decode M_Draft_lay.2.1 82 = .ok (.ireturn, 1) := by decide +kernel
theorem dc_Draft_lay_32 : decode M_Draft_lay.2.1 32 = .ok (.aload_n 0, 1) := by decide +kernel
theorem dc_Draft_lay_33 : decode M_Draft_lay.2.1 33 = .ok (.getfield 17, 3) := by decide +kernel
theorem dc_Draft_lay_36 : decode M_Draft_lay.2.1 36 = .ok (.iload_n 2, 1) := by decide +kernel
theorem dc_Draft_lay_37 : decode M_Draft_lay.2.1 37 = .ok (.aload_n 0, 1) := by decide +kernel
theorem dc_Draft_lay_38 : decode M_Draft_lay.2.1 38 = .ok (.getfield 21, 3) := by decide +kernel
theorem dc_Draft_lay_41 : decode M_Draft_lay.2.1 41 = .ok (.iastore, 1) := by decide +kernel
theorem dc_Draft_lay_42 : decode M_Draft_lay.2.1 42 = .ok (.aload_n 0, 1) := by decide +kernel
theorem dc_Draft_lay_43 : decode M_Draft_lay.2.1 43 = .ok (.aload_n 1, 1) := by decide +kernel
theorem dc_Draft_lay_44 : decode M_Draft_lay.2.1 44 = .ok (.aload_n 1, 1) := by decide +kernel
theorem dc_Draft_lay_45 : decode M_Draft_lay.2.1 45 = .ok (.getfield 42, 3) := by decide +kernel
theorem kf_3_42 : rF 3 42 = some (5, 5) := by decide +kernel
theorem dc_Draft_lay_48 : decode M_Draft_lay.2.1 48 = .ok (.iload_n 2, 1) := by decide +kernel
theorem dc_Draft_lay_49 : decode M_Draft_lay.2.1 49 = .ok (.aaload, 1) := by decide +kernel
theorem dc_Draft_lay_50 : decode M_Draft_lay.2.1 50 = .ok (.aload_n 1, 1) := by decide +kernel
theorem dc_Draft_lay_51 : decode M_Draft_lay.2.1 51 = .ok (.getfield 46, 3) := by decide +kernel
theorem kf_3_46 : rF 3 46 = some (5, 6) := by decide +kernel
theorem dc_Draft_lay_54 : decode M_Draft_lay.2.1 54 = .ok (.iload_n 2, 1) := by decide +kernel
theorem dc_Draft_lay_55 : decode M_Draft_lay.2.1 55 = .ok (.iaload, 1) := by decide +kernel
theorem dc_Draft_lay_56 : decode M_Draft_lay.2.1 56 = .ok (.invokevirtual 49, 3) := by decide +kernel
theorem km_3_49 : rM 3 49 = some (1, M_Draft_cut) := rM_at (j := 32) (p := 454) (by decide +kernel) rfl
theorem np_Draft_cut : nP M_Draft_cut = 3 := by decide +kernel
theorem dc_Draft_lay_59 : decode M_Draft_lay.2.1 59 = .ok (.ifCond .ne 5, 3) := by decide +kernel
theorem dc_Draft_lay_64 : decode M_Draft_lay.2.1 64 = .ok (.iinc 2 1, 3) := by decide +kernel
theorem dc_Draft_lay_67 : decode M_Draft_lay.2.1 67 = .ok (.goto (-41), 3) := by decide +kernel
theorem dc_Draft_lay_62 : decode M_Draft_lay.2.1 62 = .ok (.iconst 0, 1) := by decide +kernel
theorem dc_Draft_lay_63 : decode M_Draft_lay.2.1 63 = .ok (.ireturn, 1) := by decide +kernel
theorem dc_Draft_cut_0 : decode M_Draft_cut.2.1 0 = .ok (.iconst 0, 1) := by decide +kernel
theorem dc_Draft_cut_1 : decode M_Draft_cut.2.1 1 = .ok (.istore 4, 2) := by decide +kernel
theorem dc_Draft_cut_3 : decode M_Draft_cut.2.1 3 = .ok (.iconst 0, 1) := by decide +kernel
theorem dc_Draft_cut_4 : decode M_Draft_cut.2.1 4 = .ok (.istore 5, 2) := by decide +kernel
theorem dc_Draft_cut_6 : decode M_Draft_cut.2.1 6 = .ok (.iload 5, 2) := by decide +kernel
theorem dc_Draft_cut_8 : decode M_Draft_cut.2.1 8 = .ok (.iload_n 3, 1) := by decide +kernel
theorem dc_Draft_cut_9 : decode M_Draft_cut.2.1 9 = .ok (.if_icmp .ge 54, 3) := by decide +kernel
theorem dc_Draft_cut_63 : decode M_Draft_cut.2.1 63 = .ok (.iconst 1, 1) := by decide +kernel
theorem dc_Draft_cut_64 : decode M_Draft_cut.2.1 64 = .ok (.ireturn, 1) := by decide +kernel
theorem dc_Draft_cut_12 : decode M_Draft_cut.2.1 12 = .ok (.iload 5, 2) := by decide +kernel
theorem dc_Draft_cut_14 : decode M_Draft_cut.2.1 14 = .ok (.iload_n 3, 1) := by decide +kernel
theorem dc_Draft_cut_15 : decode M_Draft_cut.2.1 15 = .ok (.iconst 1, 1) := by decide +kernel
theorem dc_Draft_cut_16 : decode M_Draft_cut.2.1 16 = .ok (.isub, 1) := by decide +kernel
theorem dc_Draft_cut_17 : decode M_Draft_cut.2.1 17 = .ok (.if_icmp .eq 14, 3) := by decide +kernel
theorem dc_Draft_cut_20 : decode M_Draft_cut.2.1 20 = .ok (.aload_n 2, 1) := by decide +kernel
theorem dc_Draft_cut_21 : decode M_Draft_cut.2.1 21 = .ok (.iload 4, 2) := by decide +kernel
theorem dc_Draft_cut_23 : decode M_Draft_cut.2.1 23 = .ok (.iload 5, 2) := by decide +kernel
theorem dc_Draft_cut_25 : decode M_Draft_cut.2.1 25 = .ok (.invokestatic 53, 3) := by decide +kernel
theorem km_3_53 : rM 3 53 = some (0, M_Draft_isCutBehind) := rM_at (j := 33) (p := 458) (by decide +kernel) rfl
theorem np_Draft_isCutBehind : nP M_Draft_isCutBehind = 3 := by decide +kernel
theorem dc_Draft_cut_28 : decode M_Draft_cut.2.1 28 = .ok (.ifCond .eq 29, 3) := by decide +kernel
theorem dc_Draft_cut_31 : decode M_Draft_cut.2.1 31 = .ok (.aload_n 0, 1) := by decide +kernel
theorem dc_Draft_cut_32 : decode M_Draft_cut.2.1 32 = .ok (.aload_n 1, 1) := by decide +kernel
theorem dc_Draft_cut_33 : decode M_Draft_cut.2.1 33 = .ok (.aload_n 2, 1) := by decide +kernel
theorem dc_Draft_cut_34 : decode M_Draft_cut.2.1 34 = .ok (.iload 4, 2) := by decide +kernel
theorem dc_Draft_cut_36 : decode M_Draft_cut.2.1 36 = .ok (.iload 5, 2) := by decide +kernel
theorem dc_Draft_cut_38 : decode M_Draft_cut.2.1 38 = .ok (.iconst 1, 1) := by decide +kernel
theorem dc_Draft_cut_39 : decode M_Draft_cut.2.1 39 = .ok (.iadd, 1) := by decide +kernel
theorem dc_Draft_cut_40 : decode M_Draft_cut.2.1 40 = .ok (.iload 4, 2) := by decide +kernel
theorem dc_Draft_cut_42 : decode M_Draft_cut.2.1 42 = .ok (.isub, 1) := by decide +kernel
theorem dc_Draft_cut_43 : decode M_Draft_cut.2.1 43 = .ok (.invokevirtual 57, 3) := by decide +kernel
theorem km_3_57 : rM 3 57 = some (1, M_Draft_add) := rM_at (j := 34) (p := 461) (by decide +kernel) rfl
theorem np_Draft_add : nP M_Draft_add = 4 := by decide +kernel
theorem dc_Draft_cut_46 : decode M_Draft_cut.2.1 46 = .ok (.ifCond .ne 5, 3) := by decide +kernel
theorem dc_Draft_cut_51 : decode M_Draft_cut.2.1 51 = .ok (.iload 5, 2) := by decide +kernel
theorem dc_Draft_cut_53 : decode M_Draft_cut.2.1 53 = .ok (.iconst 1, 1) := by decide +kernel
theorem dc_Draft_cut_54 : decode M_Draft_cut.2.1 54 = .ok (.iadd, 1) := by decide +kernel
theorem dc_Draft_cut_55 : decode M_Draft_cut.2.1 55 = .ok (.istore 4, 2) := by decide +kernel
theorem dc_Draft_cut_49 : decode M_Draft_cut.2.1 49 = .ok (.iconst 0, 1) := by decide +kernel
theorem dc_Draft_cut_50 : decode M_Draft_cut.2.1 50 = .ok (.ireturn, 1) := by decide +kernel
theorem dc_Draft_cut_57 : decode M_Draft_cut.2.1 57 = .ok (.iinc 5 1, 3) := by decide +kernel
theorem dc_Draft_cut_60 : decode M_Draft_cut.2.1 60 = .ok (.goto (-54), 3) := by decide +kernel
theorem dc_Draft_isCutBehind_0 : decode M_Draft_isCutBehind.2.1 0 = .ok (.iload_n 2, 1) := by decide +kernel
theorem dc_Draft_isCutBehind_1 : decode M_Draft_isCutBehind.2.1 1 = .ok (.iconst 1, 1) := by decide +kernel
theorem dc_Draft_isCutBehind_2 : decode M_Draft_isCutBehind.2.1 2 = .ok (.iadd, 1) := by decide +kernel
theorem dc_Draft_isCutBehind_3 : decode M_Draft_isCutBehind.2.1 3 = .ok (.iload_n 1, 1) := by decide +kernel
theorem dc_Draft_isCutBehind_4 : decode M_Draft_isCutBehind.2.1 4 = .ok (.isub, 1) := by decide +kernel
theorem dc_Draft_isCutBehind_5 : decode M_Draft_isCutBehind.2.1 5 = .ok (.istore_n 3, 1) := by decide +kernel
theorem dc_Draft_isCutBehind_6 : decode M_Draft_isCutBehind.2.1 6 = .ok (.iload_n 3, 1) := by decide +kernel
theorem dc_Draft_isCutBehind_7 : decode M_Draft_isCutBehind.2.1 7 = .ok (.iconst 4, 1) := by decide +kernel
theorem dc_Draft_isCutBehind_8 : decode M_Draft_isCutBehind.2.1 8 = .ok (.if_icmp .ge 5, 3) := by decide +kernel
theorem dc_Draft_isCutBehind_13 : decode M_Draft_isCutBehind.2.1 13 = .ok (.aload_n 0, 1) := by decide +kernel
theorem dc_Draft_isCutBehind_14 : decode M_Draft_isCutBehind.2.1 14 = .ok (.iload_n 2, 1) := by decide +kernel
theorem dc_Draft_isCutBehind_15 : decode M_Draft_isCutBehind.2.1 15 = .ok (.iaload, 1) := by decide +kernel
theorem dc_Draft_isCutBehind_16 : decode M_Draft_isCutBehind.2.1 16 = .ok (.iconst 3, 1) := by decide +kernel
theorem k_iconst_3 : (Int32.ofInt 3).toInt = 3 := by decide
theorem dc_Draft_isCutBehind_17 : decode M_Draft_isCutBehind.2.1 17 = .ok (.aload_n 0, 1) := by decide +kernel
theorem dc_Draft_isCutBehind_18 : decode M_Draft_isCutBehind.2.1 18 = .ok (.iload_n 2, 1) := by decide +kernel
theorem dc_Draft_isCutBehind_19 : decode M_Draft_isCutBehind.2.1 19 = .ok (.iconst 1, 1) := by decide +kernel
theorem dc_Draft_isCutBehind_20 : decode M_Draft_isCutBehind.2.1 20 = .ok (.isub, 1) := by decide +kernel
theorem dc_Draft_isCutBehind_21 : decode M_Draft_isCutBehind.2.1 21 = .ok (.iaload, 1) := by decide +kernel
theorem dc_Draft_isCutBehind_22 : decode M_Draft_isCutBehind.2.1 22 = .ok (.imul, 1) := by decide +kernel
theorem dc_Draft_isCutBehind_23 : decode M_Draft_isCutBehind.2.1 23 = .ok (.iadd, 1) := by decide +kernel
theorem dc_Draft_isCutBehind_24 : decode M_Draft_isCutBehind.2.1 24 = .ok (.iconst 5, 1) := by decide +kernel
theorem k_iconst_5 : (Int32.ofInt 5).toInt = 5 := by decide
theorem dc_Draft_isCutBehind_25 : decode M_Draft_isCutBehind.2.1 25 = .ok (.aload_n 0, 1) := by decide +kernel
theorem dc_Draft_isCutBehind_26 : decode M_Draft_isCutBehind.2.1 26 = .ok (.iload_n 2, 1) := by decide +kernel
theorem dc_Draft_isCutBehind_27 : decode M_Draft_isCutBehind.2.1 27 = .ok (.iconst 2, 1) := by decide +kernel
theorem dc_Draft_isCutBehind_28 : decode M_Draft_isCutBehind.2.1 28 = .ok (.isub, 1) := by decide +kernel
theorem dc_Draft_isCutBehind_29 : decode M_Draft_isCutBehind.2.1 29 = .ok (.iaload, 1) := by decide +kernel
theorem dc_Draft_isCutBehind_30 : decode M_Draft_isCutBehind.2.1 30 = .ok (.imul, 1) := by decide +kernel
theorem dc_Draft_isCutBehind_31 : decode M_Draft_isCutBehind.2.1 31 = .ok (.iadd, 1) := by decide +kernel
theorem dc_Draft_isCutBehind_32 : decode M_Draft_isCutBehind.2.1 32 = .ok (.bipush 7, 2) := by decide +kernel
theorem k_bipush_7 : (Int8.ofInt 7).toInt32.toInt = 7 := by decide
theorem dc_Draft_isCutBehind_34 : decode M_Draft_isCutBehind.2.1 34 = .ok (.aload_n 0, 1) := by decide +kernel
theorem dc_Draft_isCutBehind_35 : decode M_Draft_isCutBehind.2.1 35 = .ok (.iload_n 2, 1) := by decide +kernel
theorem dc_Draft_isCutBehind_36 : decode M_Draft_isCutBehind.2.1 36 = .ok (.iconst 3, 1) := by decide +kernel
theorem dc_Draft_isCutBehind_37 : decode M_Draft_isCutBehind.2.1 37 = .ok (.isub, 1) := by decide +kernel
theorem dc_Draft_isCutBehind_38 : decode M_Draft_isCutBehind.2.1 38 = .ok (.iaload, 1) := by decide +kernel
theorem dc_Draft_isCutBehind_39 : decode M_Draft_isCutBehind.2.1 39 = .ok (.imul, 1) := by decide +kernel
theorem dc_Draft_isCutBehind_40 : decode M_Draft_isCutBehind.2.1 40 = .ok (.iadd, 1) := by decide +kernel
theorem dc_Draft_isCutBehind_41 : decode M_Draft_isCutBehind.2.1 41 = .ok (.istore 4, 2) := by decide +kernel
theorem dc_Draft_isCutBehind_43 : decode M_Draft_isCutBehind.2.1 43 = .ok (.iload_n 3, 1) := by decide +kernel
theorem dc_Draft_isCutBehind_44 : decode M_Draft_isCutBehind.2.1 44 = .ok (.bipush 16, 2) := by decide +kernel
theorem dc_Draft_isCutBehind_46 : decode M_Draft_isCutBehind.2.1 46 = .ok (.if_icmp .eq 11, 3) := by decide +kernel
theorem dc_Draft_isCutBehind_49 : decode M_Draft_isCutBehind.2.1 49 = .ok (.iload 4, 2) := by decide +kernel
theorem dc_Draft_isCutBehind_51 : decode M_Draft_isCutBehind.2.1 51 = .ok (.bipush 11, 2) := by decide +kernel
theorem dc_Draft_isCutBehind_53 : decode M_Draft_isCutBehind.2.1 53 = .ok (.irem, 1) := by decide +kernel
theorem dc_Draft_isCutBehind_54 : decode M_Draft_isCutBehind.2.1 54 = .ok (.ifCond .ne 7, 3) := by decide +kernel
theorem dc_Draft_isCutBehind_61 : decode M_Draft_isCutBehind.2.1 61 = .ok (.iconst 0, 1) := by decide +kernel
theorem dc_Draft_isCutBehind_11 : decode M_Draft_isCutBehind.2.1 11 = .ok (.iconst 0, 1) := by decide +kernel
theorem dc_Draft_isCutBehind_12 : decode M_Draft_isCutBehind.2.1 12 = .ok (.ireturn, 1) := by decide +kernel
theorem dc_Draft_isCutBehind_57 : decode M_Draft_isCutBehind.2.1 57 = .ok (.iconst 1, 1) := by decide +kernel
theorem dc_Draft_isCutBehind_58 : decode M_Draft_isCutBehind.2.1 58 = .ok (.goto 4, 3) := by decide +kernel
theorem dc_Draft_isCutBehind_62 : decode M_Draft_isCutBehind.2.1 62 = .ok (.ireturn, 1) := by decide +kernel
theorem dc_Draft_add_0 : decode M_Draft_add.2.1 0 = .ok (.aload_n 1, 1) := by decide +kernel
theorem dc_Draft_add_1 : decode M_Draft_add.2.1 1 = .ok (.aload_n 2, 1) := by decide +kernel
theorem dc_Draft_add_2 : decode M_Draft_add.2.1 2 = .ok (.iload_n 3, 1) := by decide +kernel
theorem dc_Draft_add_3 : decode M_Draft_add.2.1 3 = .ok (.iload 4, 2) := by decide +kernel
theorem dc_Draft_add_5 : decode M_Draft_add.2.1 5 = .ok (.invokevirtual 61, 3) := by decide +kernel
theorem km_3_61 : rM 3 61 = some (1, M_House_findChunk) := rM_at (j := 35) (p := 465) (by decide +kernel) rfl
theorem np_House_findChunk : nP M_House_findChunk = 3 := by decide +kernel
theorem dc_Draft_add_8 : decode M_Draft_add.2.1 8 = .ok (.astore 5, 2) := by decide +kernel
theorem dc_Draft_add_10 : decode M_Draft_add.2.1 10 = .ok (.aload 5, 2) := by decide +kernel
theorem dc_Draft_add_12 : decode M_Draft_add.2.1 12 = .ok (.ifnonnull 83, 3) := by decide +kernel
theorem dc_Draft_add_15 : decode M_Draft_add.2.1 15 = .ok (.aload_n 0, 1) := by decide +kernel
theorem dc_Draft_add_16 : decode M_Draft_add.2.1 16 = .ok (.getfield 39, 3) := by decide +kernel
theorem dc_Draft_add_19 : decode M_Draft_add.2.1 19 = .ok (.iload 4, 2) := by decide +kernel
theorem dc_Draft_add_21 : decode M_Draft_add.2.1 21 = .ok (.iadd, 1) := by decide +kernel
theorem dc_Draft_add_22 : decode M_Draft_add.2.1 22 = .ok (.bipush 60, 2) := by decide +kernel
theorem dc_Draft_add_24 : decode M_Draft_add.2.1 24 = .ok (.if_icmp .le 18, 3) := by decide +kernel
theorem dc_Draft_add_27 : decode M_Draft_add.2.1 27 = .ok (.aload_n 0, 1) := by decide +kernel
theorem dc_Draft_add_28 : decode M_Draft_add.2.1 28 = .ok (.dup, 1) := by decide +kernel
theorem dc_Draft_add_29 : decode M_Draft_add.2.1 29 = .ok (.getfield 36, 3) := by decide +kernel
theorem dc_Draft_add_32 : decode M_Draft_add.2.1 32 = .ok (.iconst 1, 1) := by decide +kernel
theorem dc_Draft_add_33 : decode M_Draft_add.2.1 33 = .ok (.iadd, 1) := by decide +kernel
theorem dc_Draft_add_34 : decode M_Draft_add.2.1 34 = .ok (.putfield 36, 3) := by decide +kernel
theorem kp_Draft_add_3_3 : fpB M_Draft_add 3 3 = true := by decide +kernel
theorem dc_Draft_add_37 : decode M_Draft_add.2.1 37 = .ok (.aload_n 0, 1) := by decide +kernel
theorem dc_Draft_add_38 : decode M_Draft_add.2.1 38 = .ok (.iconst 0, 1) := by decide +kernel
theorem dc_Draft_add_39 : decode M_Draft_add.2.1 39 = .ok (.putfield 39, 3) := by decide +kernel
theorem kp_Draft_add_3_4 : fpB M_Draft_add 3 4 = true := by decide +kernel
theorem dc_Draft_add_42 : decode M_Draft_add.2.1 42 = .ok (.aload_n 0, 1) := by decide +kernel
theorem dc_Draft_add_43 : decode M_Draft_add.2.1 43 = .ok (.getfield 36, 3) := by decide +kernel
theorem dc_Draft_add_46 : decode M_Draft_add.2.1 46 = .ok (.bipush 40, 2) := by decide +kernel
theorem k_bipush_40 : (Int8.ofInt 40).toInt32.toInt = 40 := by decide
theorem dc_Draft_add_48 : decode M_Draft_add.2.1 48 = .ok (.if_icmp .lt 5, 3) := by decide +kernel
theorem dc_Draft_add_53 : decode M_Draft_add.2.1 53 = .ok (.new 9, 3) := by decide +kernel
theorem kn_3_9 : rN 3 9 = some 1 := by decide +kernel
theorem dc_Draft_add_56 : decode M_Draft_add.2.1 56 = .ok (.dup, 1) := by decide +kernel
theorem dc_Draft_add_57 : decode M_Draft_add.2.1 57 = .ok (.aload_n 2, 1) := by decide +kernel
theorem dc_Draft_add_58 : decode M_Draft_add.2.1 58 = .ok (.iload_n 3, 1) := by decide +kernel
theorem dc_Draft_add_59 : decode M_Draft_add.2.1 59 = .ok (.iload 4, 2) := by decide +kernel
theorem dc_Draft_add_61 : decode M_Draft_add.2.1 61 = .ok (.aload_n 0, 1) := by decide +kernel
theorem dc_Draft_add_62 : decode M_Draft_add.2.1 62 = .ok (.getfield 36, 3) := by decide +kernel
theorem dc_Draft_add_65 : decode M_Draft_add.2.1 65 = .ok (.aload_n 0, 1) := by decide +kernel
theorem dc_Draft_add_66 : decode M_Draft_add.2.1 66 = .ok (.getfield 39, 3) := by decide +kernel
theorem dc_Draft_add_69 : decode M_Draft_add.2.1 69 = .ok (.invokespecial 65, 3) := by decide +kernel
theorem km_3_65 : rM 3 65 = some (2, M_Chunk_init) := rM_at (j := 41) (p := 490) (by decide +kernel) rfl
theorem np_Chunk_init : nP M_Chunk_init = 5 := by decide +kernel
theorem dc_Draft_add_51 : decode M_Draft_add.2.1 51 = .ok (.iconst 0, 1) := by decide +kernel
theorem dc_Draft_add_52 : decode M_Draft_add.2.1 52 = .ok (.ireturn, 1) := by decide +kernel
theorem dc_Draft_add_72 : decode M_Draft_add.2.1 72 = .ok (.astore 5, 2) := by decide +kernel
theorem dc_Draft_add_74 : decode M_Draft_add.2.1 74 = .ok (.aload_n 1, 1) := by decide +kernel
theorem dc_Draft_add_75 : decode M_Draft_add.2.1 75 = .ok (.getfield 68, 3) := by decide +kernel
theorem kf_3_68 : rF 3 68 = some (5, 7) := by decide +kernel
theorem dc_Draft_add_78 : decode M_Draft_add.2.1 78 = .ok (.aload 5, 2) := by decide +kernel
theorem dc_Draft_add_80 : decode M_Draft_add.2.1 80 = .ok (.invokevirtual 70, 3) := by decide +kernel
theorem km_3_70 : rM 3 70 = some (1, M_AL_add) := rM_at (j := 42) (p := 516) (by decide +kernel) rfl
theorem np_AL_add : nP M_AL_add = 1 := by decide +kernel
theorem dc_Draft_add_83 : decode M_Draft_add.2.1 83 = .ok (.pop, 1) := by decide +kernel
theorem dc_Draft_add_84 : decode M_Draft_add.2.1 84 = .ok (.aload_n 0, 1) := by decide +kernel
theorem dc_Draft_add_85 : decode M_Draft_add.2.1 85 = .ok (.dup, 1) := by decide +kernel
theorem dc_Draft_add_86 : decode M_Draft_add.2.1 86 = .ok (.getfield 39, 3) := by decide +kernel
theorem dc_Draft_add_89 : decode M_Draft_add.2.1 89 = .ok (.iload 4, 2) := by decide +kernel
theorem dc_Draft_add_91 : decode M_Draft_add.2.1 91 = .ok (.iadd, 1) := by decide +kernel
theorem dc_Draft_add_92 : decode M_Draft_add.2.1 92 = .ok (.putfield 39, 3) := by decide +kernel
theorem dc_Draft_add_95 : decode M_Draft_add.2.1 95 = .ok (.aload_n 0, 1) := by decide +kernel
theorem dc_Draft_add_96 : decode M_Draft_add.2.1 96 = .ok (.getfield 11, 3) := by decide +kernel
theorem dc_Draft_add_99 : decode M_Draft_add.2.1 99 = .ok (.aload_n 0, 1) := by decide +kernel
theorem dc_Draft_add_100 : decode M_Draft_add.2.1 100 = .ok (.getfield 21, 3) := by decide +kernel
theorem dc_Draft_add_103 : decode M_Draft_add.2.1 103 = .ok (.aload 5, 2) := by decide +kernel
theorem dc_Draft_add_105 : decode M_Draft_add.2.1 105 = .ok (.aastore, 1) := by decide +kernel
theorem dc_Draft_add_106 : decode M_Draft_add.2.1 106 = .ok (.aload_n 0, 1) := by decide +kernel
theorem dc_Draft_add_107 : decode M_Draft_add.2.1 107 = .ok (.dup, 1) := by decide +kernel
theorem dc_Draft_add_108 : decode M_Draft_add.2.1 108 = .ok (.getfield 21, 3) := by decide +kernel
theorem dc_Draft_add_111 : decode M_Draft_add.2.1 111 = .ok (.iconst 1, 1) := by decide +kernel
theorem dc_Draft_add_112 : decode M_Draft_add.2.1 112 = .ok (.iadd, 1) := by decide +kernel
theorem dc_Draft_add_113 : decode M_Draft_add.2.1 113 = .ok (.putfield 21, 3) := by decide +kernel
theorem kp_Draft_add_3_2 : fpB M_Draft_add 3 2 = true := by decide +kernel
theorem dc_Draft_add_116 : decode M_Draft_add.2.1 116 = .ok (.iconst 1, 1) := by decide +kernel
theorem dc_Draft_add_117 : decode M_Draft_add.2.1 117 = .ok (.ireturn, 1) := by decide +kernel
theorem dc_House_findChunk_0 : decode M_House_findChunk.2.1 0 = .ok (.iconst 0, 1) := by decide +kernel
theorem dc_House_findChunk_1 : decode M_House_findChunk.2.1 1 = .ok (.istore 4, 2) := by decide +kernel
theorem dc_House_findChunk_3 : decode M_House_findChunk.2.1 3 = .ok (.iload 4, 2) := by decide +kernel
theorem dc_House_findChunk_5 : decode M_House_findChunk.2.1 5 = .ok (.aload_n 0, 1) := by decide +kernel
theorem dc_House_findChunk_6 : decode M_House_findChunk.2.1 6 = .ok (.getfield 32, 3) := by decide +kernel
theorem dc_House_findChunk_9 : decode M_House_findChunk.2.1 9 = .ok (.invokevirtual 56, 3) := by decide +kernel
theorem km_5_56 : rM 5 56 = some (1, M_AL_size) := rM_at (j := 30) (p := 469) (by decide +kernel) rfl
theorem dc_House_findChunk_12 : decode M_House_findChunk.2.1 12 = .ok (.if_icmp .ge 43, 3) := by decide +kernel
theorem dc_House_findChunk_55 : decode M_House_findChunk.2.1 55 = .ok (.aconst_null, 1) := by decide +kernel
theorem dc_House_findChunk_56 : decode M_House_findChunk.2.1 56 = .ok (.areturn, 1) := by decide +kernel
theorem dc_House_findChunk_15 : decode M_House_findChunk.2.1 15 = .ok (.aload_n 0, 1) := by decide +kernel
theorem dc_House_findChunk_16 : decode M_House_findChunk.2.1 16 = .ok (.getfield 32, 3) := by decide +kernel
theorem dc_House_findChunk_19 : decode M_House_findChunk.2.1 19 = .ok (.iload 4, 2) := by decide +kernel
theorem dc_House_findChunk_21 : decode M_House_findChunk.2.1 21 = .ok (.invokevirtual 60, 3) := by decide +kernel
theorem km_5_60 : rM 5 60 = some (1, M_AL_get) := rM_at (j := 36) (p := 470) (by decide +kernel) rfl
theorem np_AL_get : nP M_AL_get = 1 := by decide +kernel
theorem dc_House_findChunk_24 : decode M_House_findChunk.2.1 24 = .ok (.checkcast 72, 3) := by decide +kernel
theorem kk_5_72 : rK 5 72 = some 101 := by decide +kernel
theorem dc_House_findChunk_27 : decode M_House_findChunk.2.1 27 = .ok (.aload_n 1, 1) := by decide +kernel
theorem dc_House_findChunk_28 : decode M_House_findChunk.2.1 28 = .ok (.iload_n 2, 1) := by decide +kernel
theorem dc_House_findChunk_29 : decode M_House_findChunk.2.1 29 = .ok (.iload_n 3, 1) := by decide +kernel
theorem dc_House_findChunk_30 : decode M_House_findChunk.2.1 30 = .ok (.invokevirtual 74, 3) := by decide +kernel
theorem km_5_74 : rM 5 74 = some (1, M_Chunk_isSame) := rM_at (j := 40) (p := 485) (by decide +kernel) rfl
theorem np_Chunk_isSame : nP M_Chunk_isSame = 3 := by decide +kernel
theorem dc_House_findChunk_33 : decode M_House_findChunk.2.1 33 = .ok (.ifCond .eq 16, 3) := by decide +kernel
theorem dc_House_findChunk_49 : decode M_House_findChunk.2.1 49 = .ok (.iinc 4 1, 3) := by decide +kernel
theorem dc_House_findChunk_52 : decode M_House_findChunk.2.1 52 = .ok (.goto (-49), 3) := by decide +kernel
theorem dc_House_findChunk_36 : decode M_House_findChunk.2.1 36 = .ok (.aload_n 0, 1) := by decide +kernel
theorem dc_House_findChunk_37 : decode M_House_findChunk.2.1 37 = .ok (.getfield 32, 3) := by decide +kernel
theorem dc_House_findChunk_40 : decode M_House_findChunk.2.1 40 = .ok (.iload 4, 2) := by decide +kernel
theorem dc_House_findChunk_42 : decode M_House_findChunk.2.1 42 = .ok (.invokevirtual 60, 3) := by decide +kernel
theorem dc_House_findChunk_45 : decode M_House_findChunk.2.1 45 = .ok (.checkcast 72, 3) := by decide +kernel
theorem dc_House_findChunk_48 : decode M_House_findChunk.2.1 48 = .ok (.areturn, 1) := by decide +kernel
theorem dc_AL_get_0 : decode M_AL_get.2.1 0 = .ok (.iload_n 1, 1) := by decide +kernel
theorem dc_AL_get_1 : decode M_AL_get.2.1 1 = .ok (.aload_n 0, 1) := by decide +kernel
theorem dc_AL_get_2 : decode M_AL_get.2.1 2 = .ok (.getfield 48, 3) := by decide +kernel
theorem dc_AL_get_5 : decode M_AL_get.2.1 5 = .ok (.invokestatic 118, 3) := by decide +kernel
theorem km_10_118 : rM 10 118 = some (0, M_Ob_checkIndex) := rM_at (j := 37) (p := 474) (by decide +kernel) rfl
theorem np_Ob_checkIndex : nP M_Ob_checkIndex = 2 := by decide +kernel
theorem dc_AL_get_8 : decode M_AL_get.2.1 8 = .ok (.pop, 1) := by decide +kernel
theorem dc_AL_get_9 : decode M_AL_get.2.1 9 = .ok (.aload_n 0, 1) := by decide +kernel
theorem dc_AL_get_10 : decode M_AL_get.2.1 10 = .ok (.iload_n 1, 1) := by decide +kernel
theorem dc_AL_get_11 : decode M_AL_get.2.1 11 = .ok (.invokevirtual 123, 3) := by decide +kernel
theorem km_10_123 : rM 10 123 = some (1, M_AL_elementData) := rM_at (j := 39) (p := 480) (by decide +kernel) rfl
theorem np_AL_elementData : nP M_AL_elementData = 1 := by decide +kernel
theorem dc_AL_get_14 : decode M_AL_get.2.1 14 = .ok (.areturn, 1) := by decide +kernel
theorem dc_Ob_checkIndex_0 : decode M_Ob_checkIndex.2.1 0 = .ok (.iload_n 0, 1) := by decide +kernel
theorem dc_Ob_checkIndex_1 : decode M_Ob_checkIndex.2.1 1 = .ok (.iload_n 1, 1) := by decide +kernel
theorem dc_Ob_checkIndex_2 : decode M_Ob_checkIndex.2.1 2 = .ok (.aconst_null, 1) := by decide +kernel
theorem dc_Ob_checkIndex_3 : decode M_Ob_checkIndex.2.1 3 = .ok (.invokestatic 105, 3) := by decide +kernel
theorem km_16_105 : rM 16 105 = some (0, M_Pr_checkIndex) := rM_at (j := 38) (p := 477) (by decide +kernel) rfl
theorem np_Pr_checkIndex : nP M_Pr_checkIndex = 3 := by decide +kernel
theorem dc_Ob_checkIndex_6 : decode M_Ob_checkIndex.2.1 6 = .ok (.ireturn, 1) := by decide +kernel
theorem dc_Pr_checkIndex_0 : decode M_Pr_checkIndex.2.1 0 = .ok (.iload_n 0, 1) := by decide +kernel
theorem dc_Pr_checkIndex_1 : decode M_Pr_checkIndex.2.1 1 = .ok (.ifCond .lt 8, 3) := by decide +kernel
theorem dc_Pr_checkIndex_4 : decode M_Pr_checkIndex.2.1 4 = .ok (.iload_n 0, 1) := by decide +kernel
theorem dc_Pr_checkIndex_5 : decode M_Pr_checkIndex.2.1 5 = .ok (.iload_n 1, 1) := by decide +kernel
theorem dc_Pr_checkIndex_6 : decode M_Pr_checkIndex.2.1 6 = .ok (.if_icmp .lt 10, 3) := by decide +kernel
theorem dc_Pr_checkIndex_16 : decode M_Pr_checkIndex.2.1 16 = .ok (.iload_n 0, 1) := by decide +kernel
theorem dc_Pr_checkIndex_17 : decode M_Pr_checkIndex.2.1 17 = .ok (.ireturn, 1) := by decide +kernel
theorem dc_Pr_checkIndex_9 : decode M_Pr_checkIndex.2.1 9 = .ok (.aload_n 2, 1) := by decide +kernel
theorem dc_Pr_checkIndex_10 : decode M_Pr_checkIndex.2.1 10 = .ok (.iload_n 0, 1) := by decide +kernel
theorem dc_Pr_checkIndex_11 : decode M_Pr_checkIndex.2.1 11 = .ok (.iload_n 1, 1) := by decide +kernel
theorem dc_Pr_checkIndex_12 : decode M_Pr_checkIndex.2.1 12 = .ok (.invokestatic 95, 3) := by decide +kernel
theorem dc_AL_elementData_0 : decode M_AL_elementData.2.1 0 = .ok (.aload_n 0, 1) := by decide +kernel
theorem dc_AL_elementData_1 : decode M_AL_elementData.2.1 1 = .ok (.getfield 9, 3) := by decide +kernel
theorem dc_AL_elementData_4 : decode M_AL_elementData.2.1 4 = .ok (.iload_n 1, 1) := by decide +kernel
theorem dc_AL_elementData_5 : decode M_AL_elementData.2.1 5 = .ok (.aaload, 1) := by decide +kernel
theorem dc_AL_elementData_6 : decode M_AL_elementData.2.1 6 = .ok (.areturn, 1) := by decide +kernel
theorem dc_Chunk_isSame_0 : decode M_Chunk_isSame.2.1 0 = .ok (.aload_n 0, 1) := by decide +kernel
theorem dc_Chunk_isSame_1 : decode M_Chunk_isSame.2.1 1 = .ok (.getfield 7, 3) := by decide +kernel
theorem kf_1_7 : rF 1 7 = some (1, 0) := by decide +kernel
theorem dc_Chunk_isSame_4 : decode M_Chunk_isSame.2.1 4 = .ok (.arraylength, 1) := by decide +kernel
theorem dc_Chunk_isSame_5 : decode M_Chunk_isSame.2.1 5 = .ok (.iload_n 3, 1) := by decide +kernel
theorem dc_Chunk_isSame_6 : decode M_Chunk_isSame.2.1 6 = .ok (.if_icmp .eq 5, 3) := by decide +kernel
theorem dc_Chunk_isSame_11 : decode M_Chunk_isSame.2.1 11 = .ok (.iconst 0, 1) := by decide +kernel
theorem dc_Chunk_isSame_12 : decode M_Chunk_isSame.2.1 12 = .ok (.istore 4, 2) := by decide +kernel
theorem dc_Chunk_isSame_9 : decode M_Chunk_isSame.2.1 9 = .ok (.iconst 0, 1) := by decide +kernel
theorem dc_Chunk_isSame_10 : decode M_Chunk_isSame.2.1 10 = .ok (.ireturn, 1) := by decide +kernel
theorem dc_Chunk_isSame_14 : decode M_Chunk_isSame.2.1 14 = .ok (.iload 4, 2) := by decide +kernel
theorem dc_Chunk_isSame_16 : decode M_Chunk_isSame.2.1 16 = .ok (.iload_n 3, 1) := by decide +kernel
theorem dc_Chunk_isSame_17 : decode M_Chunk_isSame.2.1 17 = .ok (.if_icmp .ge 27, 3) := by decide +kernel
theorem dc_Chunk_isSame_44 : decode M_Chunk_isSame.2.1 44 = .ok (.iconst 1, 1) := by decide +kernel
theorem dc_Chunk_isSame_45 : decode M_Chunk_isSame.2.1 45 = .ok (.ireturn, 1) := by decide +kernel
theorem dc_Chunk_isSame_20 : decode M_Chunk_isSame.2.1 20 = .ok (.aload_n 0, 1) := by decide +kernel
theorem dc_Chunk_isSame_21 : decode M_Chunk_isSame.2.1 21 = .ok (.getfield 7, 3) := by decide +kernel
theorem dc_Chunk_isSame_24 : decode M_Chunk_isSame.2.1 24 = .ok (.iload 4, 2) := by decide +kernel
theorem dc_Chunk_isSame_26 : decode M_Chunk_isSame.2.1 26 = .ok (.iaload, 1) := by decide +kernel
theorem dc_Chunk_isSame_27 : decode M_Chunk_isSame.2.1 27 = .ok (.aload_n 1, 1) := by decide +kernel
theorem dc_Chunk_isSame_28 : decode M_Chunk_isSame.2.1 28 = .ok (.iload_n 2, 1) := by decide +kernel
theorem dc_Chunk_isSame_29 : decode M_Chunk_isSame.2.1 29 = .ok (.iload 4, 2) := by decide +kernel
theorem dc_Chunk_isSame_31 : decode M_Chunk_isSame.2.1 31 = .ok (.iadd, 1) := by decide +kernel
theorem dc_Chunk_isSame_32 : decode M_Chunk_isSame.2.1 32 = .ok (.iaload, 1) := by decide +kernel
theorem dc_Chunk_isSame_33 : decode M_Chunk_isSame.2.1 33 = .ok (.if_icmp .eq 5, 3) := by decide +kernel
theorem dc_Chunk_isSame_38 : decode M_Chunk_isSame.2.1 38 = .ok (.iinc 4 1, 3) := by decide +kernel
theorem dc_Chunk_isSame_41 : decode M_Chunk_isSame.2.1 41 = .ok (.goto (-27), 3) := by decide +kernel
theorem dc_Chunk_isSame_36 : decode M_Chunk_isSame.2.1 36 = .ok (.iconst 0, 1) := by decide +kernel
theorem dc_Chunk_isSame_37 : decode M_Chunk_isSame.2.1 37 = .ok (.ireturn, 1) := by decide +kernel
theorem dc_Chunk_init_0 : decode M_Chunk_init.2.1 0 = .ok (.aload_n 0, 1) := by decide +kernel
theorem dc_Chunk_init_1 : decode M_Chunk_init.2.1 1 = .ok (.invokespecial 1, 3) := by decide +kernel
theorem km_1_1 : rM 1 1 = some (3, M_FB_init) := rM_at (j := 0) (p := 493) (by decide +kernel) rfl
theorem dc_Chunk_init_4 : decode M_Chunk_init.2.1 4 = .ok (.aload_n 0, 1) := by decide +kernel
theorem dc_Chunk_init_5 : decode M_Chunk_init.2.1 5 = .ok (.iload_n 3, 1) := by decide +kernel
theorem dc_Chunk_init_6 : decode M_Chunk_init.2.1 6 = .ok (.newarray .int, 2) := by decide +kernel
theorem dc_Chunk_init_8 : decode M_Chunk_init.2.1 8 = .ok (.putfield 7, 3) := by decide +kernel
theorem kp_Chunk_init_1_0 : fpB M_Chunk_init 1 0 = true := by decide +kernel
theorem dc_Chunk_init_11 : decode M_Chunk_init.2.1 11 = .ok (.aload_n 1, 1) := by decide +kernel
theorem dc_Chunk_init_12 : decode M_Chunk_init.2.1 12 = .ok (.iload_n 2, 1) := by decide +kernel
theorem dc_Chunk_init_13 : decode M_Chunk_init.2.1 13 = .ok (.aload_n 0, 1) := by decide +kernel
theorem dc_Chunk_init_14 : decode M_Chunk_init.2.1 14 = .ok (.getfield 7, 3) := by decide +kernel
theorem dc_Chunk_init_17 : decode M_Chunk_init.2.1 17 = .ok (.iconst 0, 1) := by decide +kernel
theorem dc_Chunk_init_18 : decode M_Chunk_init.2.1 18 = .ok (.iload_n 3, 1) := by decide +kernel
theorem dc_Chunk_init_19 : decode M_Chunk_init.2.1 19 = .ok (.invokestatic 13, 3) := by decide +kernel
theorem km_1_13 : rM 1 13 = some (4, M_FB_init) := rM_at (j := 0) (p := 494) (by decide +kernel) rfl
theorem dc_Chunk_init_22 : decode M_Chunk_init.2.1 22 = .ok (.aload_n 0, 1) := by decide +kernel
theorem dc_Chunk_init_23 : decode M_Chunk_init.2.1 23 = .ok (.iload 4, 2) := by decide +kernel
theorem dc_Chunk_init_25 : decode M_Chunk_init.2.1 25 = .ok (.putfield 19, 3) := by decide +kernel
theorem kf_1_19 : rF 1 19 = some (1, 1) := by decide +kernel
theorem kp_Chunk_init_1_1 : fpB M_Chunk_init 1 1 = true := by decide +kernel
theorem dc_Chunk_init_28 : decode M_Chunk_init.2.1 28 = .ok (.aload_n 0, 1) := by decide +kernel
theorem dc_Chunk_init_29 : decode M_Chunk_init.2.1 29 = .ok (.iload 5, 2) := by decide +kernel
theorem dc_Chunk_init_31 : decode M_Chunk_init.2.1 31 = .ok (.putfield 23, 3) := by decide +kernel
theorem kf_1_23 : rF 1 23 = some (1, 2) := by decide +kernel
theorem kp_Chunk_init_1_2 : fpB M_Chunk_init 1 2 = true := by decide +kernel
theorem dc_Chunk_init_34 : decode M_Chunk_init.2.1 34 = .ok (.return_, 1) := by decide +kernel
theorem kiI_1_2 {z : Int} : fitB 1 2 (vI z) = true := fi_I (by decide +kernel)
theorem kiI_1_1 {z : Int} : fitB 1 1 (vI z) = true := fi_I (by decide +kernel)
theorem kiR_1_0 {z : Option Nm} : fitB 1 0 (vR z) = true := fi_R (by decide +kernel)
theorem dc_AL_add_0 : decode M_AL_add.2.1 0 = .ok (.aload_n 0, 1) := by decide +kernel
theorem dc_AL_add_1 : decode M_AL_add.2.1 1 = .ok (.dup, 1) := by decide +kernel
theorem dc_AL_add_2 : decode M_AL_add.2.1 2 = .ok (.getfield 63, 3) := by decide +kernel
theorem kf_10_63 : rF 10 63 = some (10, 2) := by decide +kernel
theorem dc_AL_add_5 : decode M_AL_add.2.1 5 = .ok (.iconst 1, 1) := by decide +kernel
theorem dc_AL_add_6 : decode M_AL_add.2.1 6 = .ok (.iadd, 1) := by decide +kernel
theorem dc_AL_add_7 : decode M_AL_add.2.1 7 = .ok (.putfield 63, 3) := by decide +kernel
theorem kp_AL_add_10_2 : fpB M_AL_add 10 2 = true := by decide +kernel
theorem dc_AL_add_10 : decode M_AL_add.2.1 10 = .ok (.aload_n 0, 1) := by decide +kernel
theorem dc_AL_add_11 : decode M_AL_add.2.1 11 = .ok (.aload_n 1, 1) := by decide +kernel
theorem dc_AL_add_12 : decode M_AL_add.2.1 12 = .ok (.aload_n 0, 1) := by decide +kernel
theorem dc_AL_add_13 : decode M_AL_add.2.1 13 = .ok (.getfield 9, 3) := by decide +kernel
theorem dc_AL_add_16 : decode M_AL_add.2.1 16 = .ok (.aload_n 0, 1) := by decide +kernel
theorem dc_AL_add_17 : decode M_AL_add.2.1 17 = .ok (.getfield 48, 3) := by decide +kernel
theorem dc_AL_add_20 : decode M_AL_add.2.1 20 = .ok (.invokevirtual 131, 3) := by decide +kernel
theorem km_10_131 : rM 10 131 = some (1, M_AL_add_2) := rM_at (j := 43) (p := 520) (by decide +kernel) rfl
theorem np_AL_add_2 : nP M_AL_add_2 = 3 := by decide +kernel
theorem dc_AL_add_23 : decode M_AL_add.2.1 23 = .ok (.iconst 1, 1) := by decide +kernel
theorem dc_AL_add_24 : decode M_AL_add.2.1 24 = .ok (.ireturn, 1) := by decide +kernel
theorem dc_AL_add_2_0 : decode M_AL_add_2.2.1 0 = .ok (.iload_n 3, 1) := by decide +kernel
theorem dc_AL_add_2_1 : decode M_AL_add_2.2.1 1 = .ok (.aload_n 2, 1) := by decide +kernel
theorem dc_AL_add_2_2 : decode M_AL_add_2.2.1 2 = .ok (.arraylength, 1) := by decide +kernel
theorem dc_AL_add_2_3 : decode M_AL_add_2.2.1 3 = .ok (.if_icmp .ne 8, 3) := by decide +kernel
theorem dc_AL_add_2_6 : decode M_AL_add_2.2.1 6 = .ok (.aload_n 0, 1) := by decide +kernel
theorem dc_AL_add_2_7 : decode M_AL_add_2.2.1 7 = .ok (.invokevirtual 129, 3) := by decide +kernel
theorem km_10_129 : rM 10 129 = some (1, M_AL_grow) := rM_at (j := 44) (p := 524) (by decide +kernel) rfl
theorem np_AL_grow : nP M_AL_grow = 0 := by decide +kernel
theorem dc_AL_add_2_10 : decode M_AL_add_2.2.1 10 = .ok (.astore_n 2, 1) := by decide +kernel
theorem dc_AL_add_2_11 : decode M_AL_add_2.2.1 11 = .ok (.aload_n 2, 1) := by decide +kernel
theorem dc_AL_add_2_12 : decode M_AL_add_2.2.1 12 = .ok (.iload_n 3, 1) := by decide +kernel
theorem dc_AL_add_2_13 : decode M_AL_add_2.2.1 13 = .ok (.aload_n 1, 1) := by decide +kernel
theorem dc_AL_add_2_14 : decode M_AL_add_2.2.1 14 = .ok (.aastore, 1) := by decide +kernel
theorem dc_AL_add_2_15 : decode M_AL_add_2.2.1 15 = .ok (.aload_n 0, 1) := by decide +kernel
theorem dc_AL_add_2_16 : decode M_AL_add_2.2.1 16 = .ok (.iload_n 3, 1) := by decide +kernel
theorem dc_AL_add_2_17 : decode M_AL_add_2.2.1 17 = .ok (.iconst 1, 1) := by decide +kernel
theorem dc_AL_add_2_18 : decode M_AL_add_2.2.1 18 = .ok (.iadd, 1) := by decide +kernel
theorem dc_AL_add_2_19 : decode M_AL_add_2.2.1 19 = .ok (.putfield 48, 3) := by decide +kernel
theorem kp_AL_add_2_10_1 : fpB M_AL_add_2 10 1 = true := by decide +kernel
theorem dc_AL_add_2_22 : decode M_AL_add_2.2.1 22 = .ok (.return_, 1) := by decide +kernel
theorem kiI_10_1 {z : Int} : fitB 10 1 (vI z) = true := fi_I (by decide +kernel)
theorem dc_AL_grow_0 : decode M_AL_grow.2.1 0 = .ok (.aload_n 0, 1) := by decide +kernel
theorem dc_AL_grow_1 : decode M_AL_grow.2.1 1 = .ok (.aload_n 0, 1) := by decide +kernel
theorem dc_AL_grow_2 : decode M_AL_grow.2.1 2 = .ok (.getfield 48, 3) := by decide +kernel
theorem dc_AL_grow_5 : decode M_AL_grow.2.1 5 = .ok (.iconst 1, 1) := by decide +kernel
theorem dc_AL_grow_6 : decode M_AL_grow.2.1 6 = .ok (.iadd, 1) := by decide +kernel
theorem dc_AL_grow_7 : decode M_AL_grow.2.1 7 = .ok (.invokevirtual 69, 3) := by decide +kernel
theorem km_10_69 : rM 10 69 = some (1, M_AL_grow_2) := rM_at (j := 45) (p := 528) (by decide +kernel) rfl
theorem np_AL_grow_2 : nP M_AL_grow_2 = 1 := by decide +kernel
theorem dc_AL_grow_10 : decode M_AL_grow.2.1 10 = .ok (.areturn, 1) := by decide +kernel
theorem dc_AL_grow_2_0 : decode M_AL_grow_2.2.1 0 = .ok (.aload_n 0, 1) := by decide +kernel
theorem dc_AL_grow_2_1 : decode M_AL_grow_2.2.1 1 = .ok (.getfield 9, 3) := by decide +kernel
theorem dc_AL_grow_2_4 : decode M_AL_grow_2.2.1 4 = .ok (.arraylength, 1) := by decide +kernel
theorem dc_AL_grow_2_5 : decode M_AL_grow_2.2.1 5 = .ok (.istore_n 2, 1) := by decide +kernel
theorem dc_AL_grow_2_6 : decode M_AL_grow_2.2.1 6 = .ok (.iload_n 2, 1) := by decide +kernel
theorem dc_AL_grow_2_7 : decode M_AL_grow_2.2.1 7 = .ok (.ifCond .gt 13, 3) := by decide +kernel
theorem dc_AL_grow_2_10 : decode M_AL_grow_2.2.1 10 = .ok (.aload_n 0, 1) := by decide +kernel
theorem dc_AL_grow_2_11 : decode M_AL_grow_2.2.1 11 = .ok (.getfield 9, 3) := by decide +kernel
theorem dc_AL_grow_2_14 : decode M_AL_grow_2.2.1 14 = .ok (.getstatic 39, 3) := by decide +kernel
theorem dc_AL_grow_2_17 : decode M_AL_grow_2.2.1 17 = .ok (.if_acmp .eq 28, 3) := by decide +kernel
theorem dc_AL_grow_2_45 : decode M_AL_grow_2.2.1 45 = .ok (.aload_n 0, 1) := by decide +kernel
theorem dc_AL_grow_2_46 : decode M_AL_grow_2.2.1 46 = .ok (.bipush 10, 2) := by decide +kernel
theorem dc_AL_grow_2_48 : decode M_AL_grow_2.2.1 48 = .ok (.iload_n 1, 1) := by decide +kernel
theorem dc_AL_grow_2_49 : decode M_AL_grow_2.2.1 49 = .ok (.invokestatic 79, 3) := by decide +kernel
theorem km_10_79 : rM 10 79 = some (7, M_FB_init) := rM_at (j := 0) (p := 570) (by decide +kernel) rfl
theorem dc_AL_grow_2_52 : decode M_AL_grow_2.2.1 52 = .ok (.anewarray 7, 3) := by decide +kernel
theorem dc_AL_grow_2_55 : decode M_AL_grow_2.2.1 55 = .ok (.dup_x1, 1) := by decide +kernel
theorem dc_AL_grow_2_56 : decode M_AL_grow_2.2.1 56 = .ok (.putfield 9, 3) := by decide +kernel
theorem kp_AL_grow_2_10_0 : fpB M_AL_grow_2 10 0 = true := by decide +kernel
theorem dc_AL_grow_2_59 : decode M_AL_grow_2.2.1 59 = .ok (.areturn, 1) := by decide +kernel
theorem ka_10_7 : rA 10 7 = some 8 := by decide +kernel
theorem dc_AL_grow_2_20 : decode M_AL_grow_2.2.1 20 = .ok (.iload_n 2, 1) := by decide +kernel
theorem dc_AL_grow_2_21 : decode M_AL_grow_2.2.1 21 = .ok (.iload_n 1, 1) := by decide +kernel
theorem dc_AL_grow_2_22 : decode M_AL_grow_2.2.1 22 = .ok (.iload_n 2, 1) := by decide +kernel
theorem dc_AL_grow_2_23 : decode M_AL_grow_2.2.1 23 = .ok (.isub, 1) := by decide +kernel
theorem dc_AL_grow_2_24 : decode M_AL_grow_2.2.1 24 = .ok (.iload_n 2, 1) := by decide +kernel
theorem dc_AL_grow_2_25 : decode M_AL_grow_2.2.1 25 = .ok (.iconst 1, 1) := by decide +kernel
theorem dc_AL_grow_2_26 : decode M_AL_grow_2.2.1 26 = .ok (.ishr, 1) := by decide +kernel
theorem dc_AL_grow_2_27 : decode M_AL_grow_2.2.1 27 = .ok (.invokestatic 73, 3) := by decide +kernel
theorem km_10_73 : rM 10 73 = some (0, M_AS_newLength) := rM_at (j := 46) (p := 532) (by decide +kernel) rfl
theorem np_AS_newLength : nP M_AS_newLength = 3 := by decide +kernel
theorem dc_AL_grow_2_30 : decode M_AL_grow_2.2.1 30 = .ok (.istore_n 3, 1) := by decide +kernel
theorem dc_AL_grow_2_31 : decode M_AL_grow_2.2.1 31 = .ok (.aload_n 0, 1) := by decide +kernel
theorem dc_AL_grow_2_32 : decode M_AL_grow_2.2.1 32 = .ok (.aload_n 0, 1) := by decide +kernel
theorem dc_AL_grow_2_33 : decode M_AL_grow_2.2.1 33 = .ok (.getfield 9, 3) := by decide +kernel
theorem dc_AL_grow_2_36 : decode M_AL_grow_2.2.1 36 = .ok (.iload_n 3, 1) := by decide +kernel
theorem dc_AL_grow_2_37 : decode M_AL_grow_2.2.1 37 = .ok (.invokestatic 66, 3) := by decide +kernel
theorem km_10_66 : rM 10 66 = some (0, M_Ar_copyOf) := rM_at (j := 48) (p := 540) (by decide +kernel) rfl
theorem np_Ar_copyOf : nP M_Ar_copyOf = 2 := by decide +kernel
theorem dc_AL_grow_2_40 : decode M_AL_grow_2.2.1 40 = .ok (.dup_x1, 1) := by decide +kernel
theorem dc_AL_grow_2_41 : decode M_AL_grow_2.2.1 41 = .ok (.putfield 9, 3) := by decide +kernel
theorem dc_AL_grow_2_44 : decode M_AL_grow_2.2.1 44 = .ok (.areturn, 1) := by decide +kernel
theorem dc_AS_newLength_0 : decode M_AS_newLength.2.1 0 = .ok (.iload_n 0, 1) := by decide +kernel
theorem dc_AS_newLength_1 : decode M_AS_newLength.2.1 1 = .ok (.iload_n 1, 1) := by decide +kernel
theorem dc_AS_newLength_2 : decode M_AS_newLength.2.1 2 = .ok (.iload_n 2, 1) := by decide +kernel
theorem dc_AS_newLength_3 : decode M_AS_newLength.2.1 3 = .ok (.invokestatic 194, 3) := by decide +kernel
theorem km_17_194 : rM 17 194 = some (7, M_FB_init) := rM_at (j := 0) (p := 535) (by decide +kernel) rfl
theorem dc_AS_newLength_6 : decode M_AS_newLength.2.1 6 = .ok (.iadd, 1) := by decide +kernel
theorem dc_AS_newLength_7 : decode M_AS_newLength.2.1 7 = .ok (.istore_n 3, 1) := by decide +kernel
theorem dc_AS_newLength_8 : decode M_AS_newLength.2.1 8 = .ok (.iconst 0, 1) := by decide +kernel
theorem dc_AS_newLength_9 : decode M_AS_newLength.2.1 9 = .ok (.iload_n 3, 1) := by decide +kernel
theorem dc_AS_newLength_10 : decode M_AS_newLength.2.1 10 = .ok (.if_icmp .ge 11, 3) := by decide +kernel
theorem dc_AS_newLength_13 : decode M_AS_newLength.2.1 13 = .ok (.iload_n 3, 1) := by decide +kernel
theorem dc_AS_newLength_14 : decode M_AS_newLength.2.1 14 = .ok (.ldc 200, 2) := by decide +kernel
theorem ki_17_200 : rI 17 200 = some 2147483639 := by decide +kernel
theorem dc_AS_newLength_16 : decode M_AS_newLength.2.1 16 = .ok (.if_icmp .gt 5, 3) := by decide +kernel
theorem dc_AS_newLength_19 : decode M_AS_newLength.2.1 19 = .ok (.iload_n 3, 1) := by decide +kernel
theorem dc_AS_newLength_20 : decode M_AS_newLength.2.1 20 = .ok (.ireturn, 1) := by decide +kernel
theorem dc_AS_newLength_21 : decode M_AS_newLength.2.1 21 = .ok (.iload_n 0, 1) := by decide +kernel
theorem dc_AS_newLength_22 : decode M_AS_newLength.2.1 22 = .ok (.iload_n 1, 1) := by decide +kernel
theorem dc_AS_newLength_23 : decode M_AS_newLength.2.1 23 = .ok (.invokestatic 201, 3) := by decide +kernel
theorem km_17_201 : rM 17 201 = some (0, M_AS_hugeLength) := rM_at (j := 47) (p := 537) (by decide +kernel) rfl
theorem np_AS_hugeLength : nP M_AS_hugeLength = 2 := by decide +kernel
theorem dc_AS_newLength_26 : decode M_AS_newLength.2.1 26 = .ok (.ireturn, 1) := by decide +kernel
theorem dc_AS_hugeLength_0 : decode M_AS_hugeLength.2.1 0 = .ok (.iload_n 0, 1) := by decide +kernel
theorem dc_AS_hugeLength_1 : decode M_AS_hugeLength.2.1 1 = .ok (.iload_n 1, 1) := by decide +kernel
theorem dc_AS_hugeLength_2 : decode M_AS_hugeLength.2.1 2 = .ok (.iadd, 1) := by decide +kernel
theorem dc_AS_hugeLength_3 : decode M_AS_hugeLength.2.1 3 = .ok (.istore_n 2, 1) := by decide +kernel
theorem dc_AS_hugeLength_4 : decode M_AS_hugeLength.2.1 4 = .ok (.iload_n 2, 1) := by decide +kernel
theorem dc_AS_hugeLength_5 : decode M_AS_hugeLength.2.1 5 = .ok (.ifCond .ge 44, 3) := by decide +kernel
theorem dc_AS_hugeLength_49 : decode M_AS_hugeLength.2.1 49 = .ok (.iload_n 2, 1) := by decide +kernel
theorem dc_AS_hugeLength_50 : decode M_AS_hugeLength.2.1 50 = .ok (.ldc 200, 2) := by decide +kernel
theorem dc_AS_hugeLength_52 : decode M_AS_hugeLength.2.1 52 = .ok (.if_icmp .gt 6, 3) := by decide +kernel
theorem dc_AS_hugeLength_58 : decode M_AS_hugeLength.2.1 58 = .ok (.iload_n 2, 1) := by decide +kernel
theorem dc_AS_hugeLength_59 : decode M_AS_hugeLength.2.1 59 = .ok (.ireturn, 1) := by decide +kernel
theorem dc_AS_hugeLength_55 : decode M_AS_hugeLength.2.1 55 = .ok (.ldc 200, 2) := by decide +kernel
theorem dc_AS_hugeLength_57 : decode M_AS_hugeLength.2.1 57 = .ok (.ireturn, 1) := by decide +kernel
theorem dc_AS_hugeLength_8 : decode M_AS_hugeLength.2.1 8 = .ok (.new 204, 3) := by decide +kernel
theorem dc_Ar_copyOf_0 : decode M_Ar_copyOf.2.1 0 = .ok (.aload_n 0, 1) := by decide +kernel
theorem dc_Ar_copyOf_1 : decode M_Ar_copyOf.2.1 1 = .ok (.iload_n 1, 1) := by decide +kernel
theorem dc_Ar_copyOf_2 : decode M_Ar_copyOf.2.1 2 = .ok (.aload_n 0, 1) := by decide +kernel
theorem dc_Ar_copyOf_3 : decode M_Ar_copyOf.2.1 3 = .ok (.invokevirtual 86, 3) := by decide +kernel
theorem km_15_86 : rM 15 86 = some (6, M_FB_init) := rM_at (j := 0) (p := 543) (by decide +kernel) rfl
theorem dc_Ar_copyOf_6 : decode M_Ar_copyOf.2.1 6 = .ok (.invokestatic 300, 3) := by decide +kernel
theorem km_15_300 : rM 15 300 = some (0, M_Ar_copyOf_2) := rM_at (j := 49) (p := 560) (by decide +kernel) rfl
theorem np_Ar_copyOf_2 : nP M_Ar_copyOf_2 = 3 := by decide +kernel
theorem dc_Ar_copyOf_9 : decode M_Ar_copyOf.2.1 9 = .ok (.areturn, 1) := by decide +kernel
theorem dc_Ar_copyOf_2_0 : decode M_Ar_copyOf_2.2.1 0 = .ok (.aload_n 2, 1) := by decide +kernel
theorem dc_Ar_copyOf_2_1 : decode M_Ar_copyOf_2.2.1 1 = .ok (.ldc 110, 2) := by decide +kernel
theorem dc_Ar_copyOf_2_3 : decode M_Ar_copyOf_2.2.1 3 = .ok (.if_acmp .ne 10, 3) := by decide +kernel
theorem dc_Ar_copyOf_2_13 : decode M_Ar_copyOf_2.2.1 13 = .ok (.aload_n 2, 1) := by decide +kernel
theorem dc_Ar_copyOf_2_14 : decode M_Ar_copyOf_2.2.1 14 = .ok (.invokevirtual 90, 3) := by decide +kernel
theorem dc_Ar_copyOf_2_6 : decode M_Ar_copyOf_2.2.1 6 = .ok (.iload_n 1, 1) := by decide +kernel
theorem dc_Ar_copyOf_2_7 : decode M_Ar_copyOf_2.2.1 7 = .ok (.anewarray 2, 3) := by decide +kernel
theorem dc_Ar_copyOf_2_10 : decode M_Ar_copyOf_2.2.1 10 = .ok (.goto 14, 3) := by decide +kernel
theorem dc_Ar_copyOf_2_24 : decode M_Ar_copyOf_2.2.1 24 = .ok (.astore_n 3, 1) := by decide +kernel
theorem dc_Ar_copyOf_2_25 : decode M_Ar_copyOf_2.2.1 25 = .ok (.aload_n 0, 1) := by decide +kernel
theorem dc_Ar_copyOf_2_26 : decode M_Ar_copyOf_2.2.1 26 = .ok (.iconst 0, 1) := by decide +kernel
theorem dc_Ar_copyOf_2_27 : decode M_Ar_copyOf_2.2.1 27 = .ok (.aload_n 3, 1) := by decide +kernel
theorem dc_Ar_copyOf_2_28 : decode M_Ar_copyOf_2.2.1 28 = .ok (.iconst 0, 1) := by decide +kernel
theorem dc_Ar_copyOf_2_29 : decode M_Ar_copyOf_2.2.1 29 = .ok (.aload_n 0, 1) := by decide +kernel
theorem dc_Ar_copyOf_2_30 : decode M_Ar_copyOf_2.2.1 30 = .ok (.arraylength, 1) := by decide +kernel
theorem dc_Ar_copyOf_2_31 : decode M_Ar_copyOf_2.2.1 31 = .ok (.iload_n 1, 1) := by decide +kernel
theorem dc_Ar_copyOf_2_32 : decode M_Ar_copyOf_2.2.1 32 = .ok (.invokestatic 304, 3) := by decide +kernel
theorem km_15_304 : rM 15 304 = some (8, M_FB_init) := rM_at (j := 0) (p := 566) (by decide +kernel) rfl
theorem dc_Ar_copyOf_2_35 : decode M_Ar_copyOf_2.2.1 35 = .ok (.invokestatic 150, 3) := by decide +kernel
theorem km_15_150 : rM 15 150 = some (4, M_FB_init) := rM_at (j := 0) (p := 569) (by decide +kernel) rfl
theorem dc_Ar_copyOf_2_38 : decode M_Ar_copyOf_2.2.1 38 = .ok (.aload_n 3, 1) := by decide +kernel
theorem dc_Ar_copyOf_2_39 : decode M_Ar_copyOf_2.2.1 39 = .ok (.areturn, 1) := by decide +kernel
theorem ka_15_2 : rA 15 2 = some 8 := by decide +kernel
theorem dc_Ma_min_0 : decode M_Ma_min.2.1 0 = .ok (.iload_n 0, 1) := by decide +kernel
theorem dc_Ma_min_1 : decode M_Ma_min.2.1 1 = .ok (.iload_n 1, 1) := by decide +kernel
theorem dc_Ma_min_2 : decode M_Ma_min.2.1 2 = .ok (.if_icmp .gt 7, 3) := by decide +kernel
theorem dc_Ma_min_9 : decode M_Ma_min.2.1 9 = .ok (.iload_n 1, 1) := by decide +kernel
theorem dc_Ma_min_5 : decode M_Ma_min.2.1 5 = .ok (.iload_n 0, 1) := by decide +kernel
theorem dc_Ma_min_6 : decode M_Ma_min.2.1 6 = .ok (.goto 4, 3) := by decide +kernel
theorem dc_Ma_min_10 : decode M_Ma_min.2.1 10 = .ok (.ireturn, 1) := by decide +kernel
theorem dc_House_dropChunksFrom_0 : decode M_House_dropChunksFrom.2.1 0 = .ok (.aload_n 0, 1) := by decide +kernel
theorem dc_House_dropChunksFrom_1 : decode M_House_dropChunksFrom.2.1 1 = .ok (.getfield 32, 3) := by decide +kernel
theorem dc_House_dropChunksFrom_4 : decode M_House_dropChunksFrom.2.1 4 = .ok (.invokevirtual 56, 3) := by decide +kernel
theorem dc_House_dropChunksFrom_7 : decode M_House_dropChunksFrom.2.1 7 = .ok (.iconst 1, 1) := by decide +kernel
theorem dc_House_dropChunksFrom_8 : decode M_House_dropChunksFrom.2.1 8 = .ok (.isub, 1) := by decide +kernel
theorem dc_House_dropChunksFrom_9 : decode M_House_dropChunksFrom.2.1 9 = .ok (.istore_n 2, 1) := by decide +kernel
theorem dc_House_dropChunksFrom_10 : decode M_House_dropChunksFrom.2.1 10 = .ok (.iload_n 2, 1) := by decide +kernel
theorem dc_House_dropChunksFrom_11 : decode M_House_dropChunksFrom.2.1 11 = .ok (.iload_n 1, 1) := by decide +kernel
theorem dc_House_dropChunksFrom_12 : decode M_House_dropChunksFrom.2.1 12 = .ok (.if_icmp .lt 18, 3) := by decide +kernel
theorem dc_House_dropChunksFrom_30 : decode M_House_dropChunksFrom.2.1 30 = .ok (.return_, 1) := by decide +kernel
theorem dc_House_dropChunksFrom_15 : decode M_House_dropChunksFrom.2.1 15 = .ok (.aload_n 0, 1) := by decide +kernel
theorem dc_House_dropChunksFrom_16 : decode M_House_dropChunksFrom.2.1 16 = .ok (.getfield 32, 3) := by decide +kernel
theorem dc_House_dropChunksFrom_19 : decode M_House_dropChunksFrom.2.1 19 = .ok (.iload_n 2, 1) := by decide +kernel
theorem dc_House_dropChunksFrom_20 : decode M_House_dropChunksFrom.2.1 20 = .ok (.invokevirtual 78, 3) := by decide +kernel
theorem km_5_78 : rM 5 78 = some (1, M_AL_remove) := rM_at (j := 51) (p := 576) (by decide +kernel) rfl
theorem np_AL_remove : nP M_AL_remove = 1 := by decide +kernel
theorem dc_House_dropChunksFrom_23 : decode M_House_dropChunksFrom.2.1 23 = .ok (.pop, 1) := by decide +kernel
theorem dc_House_dropChunksFrom_24 : decode M_House_dropChunksFrom.2.1 24 = .ok (.iinc 2 (-1), 3) := by decide +kernel
theorem dc_House_dropChunksFrom_27 : decode M_House_dropChunksFrom.2.1 27 = .ok (.goto (-17), 3) := by decide +kernel
theorem dc_AL_remove_0 : decode M_AL_remove.2.1 0 = .ok (.iload_n 1, 1) := by decide +kernel
theorem dc_AL_remove_1 : decode M_AL_remove.2.1 1 = .ok (.aload_n 0, 1) := by decide +kernel
theorem dc_AL_remove_2 : decode M_AL_remove.2.1 2 = .ok (.getfield 48, 3) := by decide +kernel
theorem dc_AL_remove_5 : decode M_AL_remove.2.1 5 = .ok (.invokestatic 118, 3) := by decide +kernel
theorem dc_AL_remove_8 : decode M_AL_remove.2.1 8 = .ok (.pop, 1) := by decide +kernel
theorem dc_AL_remove_9 : decode M_AL_remove.2.1 9 = .ok (.aload_n 0, 1) := by decide +kernel
theorem dc_AL_remove_10 : decode M_AL_remove.2.1 10 = .ok (.getfield 9, 3) := by decide +kernel
theorem dc_AL_remove_13 : decode M_AL_remove.2.1 13 = .ok (.astore_n 2, 1) := by decide +kernel
theorem dc_AL_remove_14 : decode M_AL_remove.2.1 14 = .ok (.aload_n 2, 1) := by decide +kernel
theorem dc_AL_remove_15 : decode M_AL_remove.2.1 15 = .ok (.iload_n 1, 1) := by decide +kernel
theorem dc_AL_remove_16 : decode M_AL_remove.2.1 16 = .ok (.aaload, 1) := by decide +kernel
theorem dc_AL_remove_17 : decode M_AL_remove.2.1 17 = .ok (.astore_n 3, 1) := by decide +kernel
theorem dc_AL_remove_18 : decode M_AL_remove.2.1 18 = .ok (.aload_n 0, 1) := by decide +kernel
theorem dc_AL_remove_19 : decode M_AL_remove.2.1 19 = .ok (.aload_n 2, 1) := by decide +kernel
theorem dc_AL_remove_20 : decode M_AL_remove.2.1 20 = .ok (.iload_n 1, 1) := by decide +kernel
theorem dc_AL_remove_21 : decode M_AL_remove.2.1 21 = .ok (.invokevirtual 144, 3) := by decide +kernel
theorem km_10_144 : rM 10 144 = some (1, M_AL_fastRemove) := rM_at (j := 52) (p := 580) (by decide +kernel) rfl
theorem np_AL_fastRemove : nP M_AL_fastRemove = 2 := by decide +kernel
theorem dc_AL_remove_24 : decode M_AL_remove.2.1 24 = .ok (.aload_n 3, 1) := by decide +kernel
theorem dc_AL_remove_25 : decode M_AL_remove.2.1 25 = .ok (.areturn, 1) := by decide +kernel
theorem dc_AL_fastRemove_0 : decode M_AL_fastRemove.2.1 0 = .ok (.aload_n 0, 1) := by decide +kernel
theorem dc_AL_fastRemove_1 : decode M_AL_fastRemove.2.1 1 = .ok (.dup, 1) := by decide +kernel
theorem dc_AL_fastRemove_2 : decode M_AL_fastRemove.2.1 2 = .ok (.getfield 63, 3) := by decide +kernel
theorem dc_AL_fastRemove_5 : decode M_AL_fastRemove.2.1 5 = .ok (.iconst 1, 1) := by decide +kernel
theorem dc_AL_fastRemove_6 : decode M_AL_fastRemove.2.1 6 = .ok (.iadd, 1) := by decide +kernel
theorem dc_AL_fastRemove_7 : decode M_AL_fastRemove.2.1 7 = .ok (.putfield 63, 3) := by decide +kernel
theorem kp_AL_fastRemove_10_2 : fpB M_AL_fastRemove 10 2 = true := by decide +kernel
theorem dc_AL_fastRemove_10 : decode M_AL_fastRemove.2.1 10 = .ok (.aload_n 0, 1) := by decide +kernel
theorem dc_AL_fastRemove_11 : decode M_AL_fastRemove.2.1 11 = .ok (.getfield 48, 3) := by decide +kernel
theorem dc_AL_fastRemove_14 : decode M_AL_fastRemove.2.1 14 = .ok (.iconst 1, 1) := by decide +kernel
theorem dc_AL_fastRemove_15 : decode M_AL_fastRemove.2.1 15 = .ok (.isub, 1) := by decide +kernel
theorem dc_AL_fastRemove_16 : decode M_AL_fastRemove.2.1 16 = .ok (.dup, 1) := by decide +kernel
theorem dc_AL_fastRemove_17 : decode M_AL_fastRemove.2.1 17 = .ok (.istore_n 3, 1) := by decide +kernel
theorem dc_AL_fastRemove_18 : decode M_AL_fastRemove.2.1 18 = .ok (.iload_n 2, 1) := by decide +kernel
theorem dc_AL_fastRemove_19 : decode M_AL_fastRemove.2.1 19 = .ok (.if_icmp .le 15, 3) := by decide +kernel
theorem dc_AL_fastRemove_22 : decode M_AL_fastRemove.2.1 22 = .ok (.aload_n 1, 1) := by decide +kernel
theorem dc_AL_fastRemove_23 : decode M_AL_fastRemove.2.1 23 = .ok (.iload_n 2, 1) := by decide +kernel
theorem dc_AL_fastRemove_24 : decode M_AL_fastRemove.2.1 24 = .ok (.iconst 1, 1) := by decide +kernel
theorem dc_AL_fastRemove_25 : decode M_AL_fastRemove.2.1 25 = .ok (.iadd, 1) := by decide +kernel
theorem dc_AL_fastRemove_26 : decode M_AL_fastRemove.2.1 26 = .ok (.aload_n 1, 1) := by decide +kernel
theorem dc_AL_fastRemove_27 : decode M_AL_fastRemove.2.1 27 = .ok (.iload_n 2, 1) := by decide +kernel
theorem dc_AL_fastRemove_28 : decode M_AL_fastRemove.2.1 28 = .ok (.iload_n 3, 1) := by decide +kernel
theorem dc_AL_fastRemove_29 : decode M_AL_fastRemove.2.1 29 = .ok (.iload_n 2, 1) := by decide +kernel
theorem dc_AL_fastRemove_30 : decode M_AL_fastRemove.2.1 30 = .ok (.isub, 1) := by decide +kernel
theorem dc_AL_fastRemove_31 : decode M_AL_fastRemove.2.1 31 = .ok (.invokestatic 112, 3) := by decide +kernel
theorem km_10_112 : rM 10 112 = some (4, M_FB_init) := rM_at (j := 0) (p := 584) (by decide +kernel) rfl
theorem dc_AL_fastRemove_34 : decode M_AL_fastRemove.2.1 34 = .ok (.aload_n 1, 1) := by decide +kernel
theorem dc_AL_fastRemove_35 : decode M_AL_fastRemove.2.1 35 = .ok (.aload_n 0, 1) := by decide +kernel
theorem dc_AL_fastRemove_36 : decode M_AL_fastRemove.2.1 36 = .ok (.iload_n 3, 1) := by decide +kernel
theorem dc_AL_fastRemove_37 : decode M_AL_fastRemove.2.1 37 = .ok (.dup_x1, 1) := by decide +kernel
theorem dc_AL_fastRemove_38 : decode M_AL_fastRemove.2.1 38 = .ok (.putfield 48, 3) := by decide +kernel
theorem kp_AL_fastRemove_10_1 : fpB M_AL_fastRemove 10 1 = true := by decide +kernel
theorem dc_AL_fastRemove_41 : decode M_AL_fastRemove.2.1 41 = .ok (.aconst_null, 1) := by decide +kernel
theorem dc_AL_fastRemove_42 : decode M_AL_fastRemove.2.1 42 = .ok (.aastore, 1) := by decide +kernel
theorem dc_AL_fastRemove_43 : decode M_AL_fastRemove.2.1 43 = .ok (.return_, 1) := by decide +kernel
theorem dc_House_addSegments_0 : decode M_House_addSegments.2.1 0 = .ok (.aload_n 0, 1) := by decide +kernel
theorem dc_House_addSegments_1 : decode M_House_addSegments.2.1 1 = .ok (.getfield 36, 3) := by decide +kernel
theorem dc_House_addSegments_4 : decode M_House_addSegments.2.1 4 = .ok (.invokevirtual 56, 3) := by decide +kernel
theorem dc_House_addSegments_7 : decode M_House_addSegments.2.1 7 = .ok (.istore_n 3, 1) := by decide +kernel
theorem dc_House_addSegments_8 : decode M_House_addSegments.2.1 8 = .ok (.iload_n 3, 1) := by decide +kernel
theorem dc_House_addSegments_9 : decode M_House_addSegments.2.1 9 = .ok (.iload_n 1, 1) := by decide +kernel
theorem dc_House_addSegments_10 : decode M_House_addSegments.2.1 10 = .ok (.if_icmp .ge 25, 3) := by decide +kernel
theorem dc_House_addSegments_35 : decode M_House_addSegments.2.1 35 = .ok (.return_, 1) := by decide +kernel
theorem dc_House_addSegments_13 : decode M_House_addSegments.2.1 13 = .ok (.aload_n 0, 1) := by decide +kernel
theorem dc_House_addSegments_14 : decode M_House_addSegments.2.1 14 = .ok (.getfield 36, 3) := by decide +kernel
theorem dc_House_addSegments_17 : decode M_House_addSegments.2.1 17 = .ok (.new 64, 3) := by decide +kernel
theorem kn_5_64 : rN 5 64 = some 7 := by decide +kernel
theorem dc_House_addSegments_20 : decode M_House_addSegments.2.1 20 = .ok (.dup, 1) := by decide +kernel
theorem dc_House_addSegments_21 : decode M_House_addSegments.2.1 21 = .ok (.aload_n 2, 1) := by decide +kernel
theorem dc_House_addSegments_22 : decode M_House_addSegments.2.1 22 = .ok (.invokespecial 81, 3) := by decide +kernel
theorem km_5_81 : rM 5 81 = some (2, M_Segment_init) := rM_at (j := 54) (p := 591) (by decide +kernel) rfl
theorem np_Segment_init : nP M_Segment_init = 1 := by decide +kernel
theorem dc_House_addSegments_25 : decode M_House_addSegments.2.1 25 = .ok (.invokevirtual 84, 3) := by decide +kernel
theorem km_5_84 : rM 5 84 = some (1, M_AL_add) := rM_at (j := 42) (p := 651) (by decide +kernel) rfl
theorem dc_House_addSegments_28 : decode M_House_addSegments.2.1 28 = .ok (.pop, 1) := by decide +kernel
theorem dc_House_addSegments_29 : decode M_House_addSegments.2.1 29 = .ok (.iinc 3 1, 3) := by decide +kernel
theorem dc_House_addSegments_32 : decode M_House_addSegments.2.1 32 = .ok (.goto (-24), 3) := by decide +kernel
theorem dc_Segment_init_0 : decode M_Segment_init.2.1 0 = .ok (.aload_n 0, 1) := by decide +kernel
theorem dc_Segment_init_1 : decode M_Segment_init.2.1 1 = .ok (.invokespecial 3, 3) := by decide +kernel
theorem km_7_3 : rM 7 3 = some (3, M_FB_init) := rM_at (j := 0) (p := 594) (by decide +kernel) rfl
theorem dc_Segment_init_4 : decode M_Segment_init.2.1 4 = .ok (.aload_n 0, 1) := by decide +kernel
theorem dc_Segment_init_5 : decode M_Segment_init.2.1 5 = .ok (.bipush 60, 2) := by decide +kernel
theorem dc_Segment_init_7 : decode M_Segment_init.2.1 7 = .ok (.newarray .int, 2) := by decide +kernel
theorem dc_Segment_init_9 : decode M_Segment_init.2.1 9 = .ok (.putfield 9, 3) := by decide +kernel
theorem kf_7_9 : rF 7 9 = some (7, 0) := by decide +kernel
theorem kp_Segment_init_7_0 : fpB M_Segment_init 7 0 = true := by decide +kernel
theorem dc_Segment_init_12 : decode M_Segment_init.2.1 12 = .ok (.aload_n 0, 1) := by decide +kernel
theorem dc_Segment_init_13 : decode M_Segment_init.2.1 13 = .ok (.bipush 60, 2) := by decide +kernel
theorem dc_Segment_init_15 : decode M_Segment_init.2.1 15 = .ok (.newarray .int, 2) := by decide +kernel
theorem dc_Segment_init_17 : decode M_Segment_init.2.1 17 = .ok (.putfield 15, 3) := by decide +kernel
theorem kf_7_15 : rF 7 15 = some (7, 1) := by decide +kernel
theorem kp_Segment_init_7_1 : fpB M_Segment_init 7 1 = true := by decide +kernel
theorem dc_Segment_init_20 : decode M_Segment_init.2.1 20 = .ok (.aload_n 0, 1) := by decide +kernel
theorem dc_Segment_init_21 : decode M_Segment_init.2.1 21 = .ok (.iconst 1, 1) := by decide +kernel
theorem dc_Segment_init_22 : decode M_Segment_init.2.1 22 = .ok (.putfield 18, 3) := by decide +kernel
theorem kf_7_18 : rF 7 18 = some (7, 3) := by decide +kernel
theorem kp_Segment_init_7_3 : fpB M_Segment_init 7 3 = true := by decide +kernel
theorem dc_Segment_init_25 : decode M_Segment_init.2.1 25 = .ok (.aload_n 0, 1) := by decide +kernel
theorem dc_Segment_init_26 : decode M_Segment_init.2.1 26 = .ok (.aload_n 1, 1) := by decide +kernel
theorem dc_Segment_init_27 : decode M_Segment_init.2.1 27 = .ok (.getfield 22, 3) := by decide +kernel
theorem kf_7_22 : rF 7 22 = some (2, 4) := by decide +kernel
theorem dc_Segment_init_30 : decode M_Segment_init.2.1 30 = .ok (.anewarray 28, 3) := by decide +kernel
theorem dc_Segment_init_33 : decode M_Segment_init.2.1 33 = .ok (.putfield 30, 3) := by decide +kernel
theorem kf_7_30 : rF 7 30 = some (7, 2) := by decide +kernel
theorem kp_Segment_init_7_2 : fpB M_Segment_init 7 2 = true := by decide +kernel
theorem dc_Segment_init_36 : decode M_Segment_init.2.1 36 = .ok (.iconst 0, 1) := by decide +kernel
theorem dc_Segment_init_37 : decode M_Segment_init.2.1 37 = .ok (.istore_n 2, 1) := by decide +kernel
theorem kiR_7_2 {z : Option Nm} : fitB 7 2 (vR z) = true := fi_R (by decide +kernel)
theorem ka_7_28 : rA 7 28 = some 7 := by decide +kernel
theorem kiZ_7_3 {z : Int} : fitB 7 3 (vI z) = true ↔ (z = 0 ∨ z = 1) := fi_Z (by decide +kernel)
theorem kiR_7_1 {z : Option Nm} : fitB 7 1 (vR z) = true := fi_R (by decide +kernel)
theorem kiR_7_0 {z : Option Nm} : fitB 7 0 (vR z) = true := fi_R (by decide +kernel)
theorem dc_Segment_init_38 : decode M_Segment_init.2.1 38 = .ok (.iload_n 2, 1) := by decide +kernel
theorem dc_Segment_init_39 : decode M_Segment_init.2.1 39 = .ok (.aload_n 1, 1) := by decide +kernel
theorem dc_Segment_init_40 : decode M_Segment_init.2.1 40 = .ok (.getfield 22, 3) := by decide +kernel
theorem dc_Segment_init_43 : decode M_Segment_init.2.1 43 = .ok (.if_icmp .ge 26, 3) := by decide +kernel
theorem dc_Segment_init_69 : decode M_Segment_init.2.1 69 = .ok (.return_, 1) := by decide +kernel
theorem dc_Segment_init_46 : decode M_Segment_init.2.1 46 = .ok (.aload_n 0, 1) := by decide +kernel
theorem dc_Segment_init_47 : decode M_Segment_init.2.1 47 = .ok (.getfield 30, 3) := by decide +kernel
theorem dc_Segment_init_50 : decode M_Segment_init.2.1 50 = .ok (.iload_n 2, 1) := by decide +kernel
theorem dc_Segment_init_51 : decode M_Segment_init.2.1 51 = .ok (.new 28, 3) := by decide +kernel
theorem kn_7_28 : rN 7 28 = some 6 := by decide +kernel
theorem dc_Segment_init_54 : decode M_Segment_init.2.1 54 = .ok (.dup, 1) := by decide +kernel
theorem dc_Segment_init_55 : decode M_Segment_init.2.1 55 = .ok (.aload_n 1, 1) := by decide +kernel
theorem dc_Segment_init_56 : decode M_Segment_init.2.1 56 = .ok (.getfield 34, 3) := by decide +kernel
theorem kf_7_34 : rF 7 34 = some (2, 5) := by decide +kernel
theorem dc_Segment_init_59 : decode M_Segment_init.2.1 59 = .ok (.invokespecial 37, 3) := by decide +kernel
theorem km_7_37 : rM 7 37 = some (2, M_Piece_init) := rM_at (j := 55) (p := 598) (by decide +kernel) rfl
theorem np_Piece_init : nP M_Piece_init = 1 := by decide +kernel
theorem dc_Segment_init_62 : decode M_Segment_init.2.1 62 = .ok (.aastore, 1) := by decide +kernel
theorem dc_Segment_init_63 : decode M_Segment_init.2.1 63 = .ok (.iinc 2 1, 3) := by decide +kernel
theorem dc_Segment_init_66 : decode M_Segment_init.2.1 66 = .ok (.goto (-28), 3) := by decide +kernel
theorem dc_Piece_init_0 : decode M_Piece_init.2.1 0 = .ok (.aload_n 0, 1) := by decide +kernel
theorem dc_Piece_init_1 : decode M_Piece_init.2.1 1 = .ok (.invokespecial 3, 3) := by decide +kernel
theorem km_6_3 : rM 6 3 = some (3, M_FB_init) := rM_at (j := 0) (p := 601) (by decide +kernel) rfl
theorem dc_Piece_init_4 : decode M_Piece_init.2.1 4 = .ok (.aload_n 0, 1) := by decide +kernel
theorem dc_Piece_init_5 : decode M_Piece_init.2.1 5 = .ok (.bipush 8, 2) := by decide +kernel
theorem k_bipush_8 : (Int8.ofInt 8).toInt32.toInt = 8 := by decide
theorem dc_Piece_init_7 : decode M_Piece_init.2.1 7 = .ok (.newarray .int, 2) := by decide +kernel
theorem dc_Piece_init_9 : decode M_Piece_init.2.1 9 = .ok (.putfield 9, 3) := by decide +kernel
theorem kf_6_9 : rF 6 9 = some (6, 1) := by decide +kernel
theorem kp_Piece_init_6_1 : fpB M_Piece_init 6 1 = true := by decide +kernel
theorem dc_Piece_init_12 : decode M_Piece_init.2.1 12 = .ok (.aload_n 0, 1) := by decide +kernel
theorem dc_Piece_init_13 : decode M_Piece_init.2.1 13 = .ok (.iconst (-1), 1) := by decide +kernel
theorem dc_Piece_init_14 : decode M_Piece_init.2.1 14 = .ok (.putfield 15, 3) := by decide +kernel
theorem kf_6_15 : rF 6 15 = some (6, 2) := by decide +kernel
theorem kp_Piece_init_6_2 : fpB M_Piece_init 6 2 = true := by decide +kernel
theorem dc_Piece_init_17 : decode M_Piece_init.2.1 17 = .ok (.aload_n 0, 1) := by decide +kernel
theorem dc_Piece_init_18 : decode M_Piece_init.2.1 18 = .ok (.iload_n 1, 1) := by decide +kernel
theorem dc_Piece_init_19 : decode M_Piece_init.2.1 19 = .ok (.newarray .int, 2) := by decide +kernel
theorem dc_Piece_init_21 : decode M_Piece_init.2.1 21 = .ok (.putfield 19, 3) := by decide +kernel
theorem kf_6_19 : rF 6 19 = some (6, 0) := by decide +kernel
theorem kp_Piece_init_6_0 : fpB M_Piece_init 6 0 = true := by decide +kernel
theorem dc_Piece_init_24 : decode M_Piece_init.2.1 24 = .ok (.return_, 1) := by decide +kernel
theorem kiR_6_0 {z : Option Nm} : fitB 6 0 (vR z) = true := fi_R (by decide +kernel)
theorem kiI_6_2 {z : Int} : fitB 6 2 (vI z) = true := fi_I (by decide +kernel)
theorem kiR_6_1 {z : Option Nm} : fitB 6 1 (vR z) = true := fi_R (by decide +kernel)
theorem dc_House_fillSegments_0 : decode M_House_fillSegments.2.1 0 = .ok (.iload_n 1, 1) := by decide +kernel
theorem dc_House_fillSegments_1 : decode M_House_fillSegments.2.1 1 = .ok (.istore_n 2, 1) := by decide +kernel
theorem dc_House_fillSegments_2 : decode M_House_fillSegments.2.1 2 = .ok (.iload_n 2, 1) := by decide +kernel
theorem dc_House_fillSegments_3 : decode M_House_fillSegments.2.1 3 = .ok (.aload_n 0, 1) := by decide +kernel
theorem dc_House_fillSegments_4 : decode M_House_fillSegments.2.1 4 = .ok (.getfield 32, 3) := by decide +kernel
theorem dc_House_fillSegments_7 : decode M_House_fillSegments.2.1 7 = .ok (.invokevirtual 56, 3) := by decide +kernel
theorem dc_House_fillSegments_10 : decode M_House_fillSegments.2.1 10 = .ok (.if_icmp .ge 39, 3) := by decide +kernel
theorem dc_House_fillSegments_49 : decode M_House_fillSegments.2.1 49 = .ok (.return_, 1) := by decide +kernel
theorem dc_House_fillSegments_13 : decode M_House_fillSegments.2.1 13 = .ok (.aload_n 0, 1) := by decide +kernel
theorem dc_House_fillSegments_14 : decode M_House_fillSegments.2.1 14 = .ok (.getfield 32, 3) := by decide +kernel
theorem dc_House_fillSegments_17 : decode M_House_fillSegments.2.1 17 = .ok (.iload_n 2, 1) := by decide +kernel
theorem dc_House_fillSegments_18 : decode M_House_fillSegments.2.1 18 = .ok (.invokevirtual 60, 3) := by decide +kernel
theorem dc_House_fillSegments_21 : decode M_House_fillSegments.2.1 21 = .ok (.checkcast 72, 3) := by decide +kernel
theorem dc_House_fillSegments_24 : decode M_House_fillSegments.2.1 24 = .ok (.astore_n 3, 1) := by decide +kernel
theorem dc_House_fillSegments_25 : decode M_House_fillSegments.2.1 25 = .ok (.aload_n 0, 1) := by decide +kernel
theorem dc_House_fillSegments_26 : decode M_House_fillSegments.2.1 26 = .ok (.getfield 36, 3) := by decide +kernel
theorem dc_House_fillSegments_29 : decode M_House_fillSegments.2.1 29 = .ok (.aload_n 3, 1) := by decide +kernel
theorem dc_House_fillSegments_30 : decode M_House_fillSegments.2.1 30 = .ok (.getfield 88, 3) := by decide +kernel
theorem kf_5_88 : rF 5 88 = some (1, 1) := by decide +kernel
theorem dc_House_fillSegments_33 : decode M_House_fillSegments.2.1 33 = .ok (.invokevirtual 60, 3) := by decide +kernel
theorem dc_House_fillSegments_36 : decode M_House_fillSegments.2.1 36 = .ok (.checkcast 64, 3) := by decide +kernel
theorem kk_5_64 : rK 5 64 = some 107 := by decide +kernel
theorem dc_House_fillSegments_39 : decode M_House_fillSegments.2.1 39 = .ok (.aload_n 3, 1) := by decide +kernel
theorem dc_House_fillSegments_40 : decode M_House_fillSegments.2.1 40 = .ok (.invokevirtual 91, 3) := by decide +kernel
theorem km_5_91 : rM 5 91 = some (1, M_Segment_add) := rM_at (j := 57) (p := 656) (by decide +kernel) rfl
theorem np_Segment_add : nP M_Segment_add = 1 := by decide +kernel
theorem dc_House_fillSegments_43 : decode M_House_fillSegments.2.1 43 = .ok (.iinc 2 1, 3) := by decide +kernel
theorem dc_House_fillSegments_46 : decode M_House_fillSegments.2.1 46 = .ok (.goto (-44), 3) := by decide +kernel
theorem dc_Segment_add_0 : decode M_Segment_add.2.1 0 = .ok (.aload_n 1, 1) := by decide +kernel
theorem dc_Segment_add_1 : decode M_Segment_add.2.1 1 = .ok (.getfield 40, 3) := by decide +kernel
theorem kf_7_40 : rF 7 40 = some (1, 0) := by decide +kernel
theorem dc_Segment_add_4 : decode M_Segment_add.2.1 4 = .ok (.iconst 0, 1) := by decide +kernel
theorem dc_Segment_add_5 : decode M_Segment_add.2.1 5 = .ok (.aload_n 0, 1) := by decide +kernel
theorem dc_Segment_add_6 : decode M_Segment_add.2.1 6 = .ok (.getfield 9, 3) := by decide +kernel
theorem dc_Segment_add_9 : decode M_Segment_add.2.1 9 = .ok (.aload_n 1, 1) := by decide +kernel
theorem dc_Segment_add_10 : decode M_Segment_add.2.1 10 = .ok (.getfield 45, 3) := by decide +kernel
theorem kf_7_45 : rF 7 45 = some (1, 2) := by decide +kernel
theorem dc_Segment_add_13 : decode M_Segment_add.2.1 13 = .ok (.aload_n 1, 1) := by decide +kernel
theorem dc_Segment_add_14 : decode M_Segment_add.2.1 14 = .ok (.getfield 40, 3) := by decide +kernel
theorem dc_Segment_add_17 : decode M_Segment_add.2.1 17 = .ok (.arraylength, 1) := by decide +kernel
theorem dc_Segment_add_18 : decode M_Segment_add.2.1 18 = .ok (.invokestatic 48, 3) := by decide +kernel
theorem km_7_48 : rM 7 48 = some (4, M_FB_init) := rM_at (j := 0) (p := 660) (by decide +kernel) rfl
theorem dc_Segment_add_21 : decode M_Segment_add.2.1 21 = .ok (.aload_n 1, 1) := by decide +kernel
theorem dc_Segment_add_22 : decode M_Segment_add.2.1 22 = .ok (.getfield 40, 3) := by decide +kernel
theorem dc_Segment_add_25 : decode M_Segment_add.2.1 25 = .ok (.iconst 0, 1) := by decide +kernel
theorem dc_Segment_add_26 : decode M_Segment_add.2.1 26 = .ok (.aload_n 0, 1) := by decide +kernel
theorem dc_Segment_add_27 : decode M_Segment_add.2.1 27 = .ok (.getfield 15, 3) := by decide +kernel
theorem dc_Segment_add_30 : decode M_Segment_add.2.1 30 = .ok (.aload_n 1, 1) := by decide +kernel
theorem dc_Segment_add_31 : decode M_Segment_add.2.1 31 = .ok (.getfield 45, 3) := by decide +kernel
theorem dc_Segment_add_34 : decode M_Segment_add.2.1 34 = .ok (.aload_n 1, 1) := by decide +kernel
theorem dc_Segment_add_35 : decode M_Segment_add.2.1 35 = .ok (.getfield 40, 3) := by decide +kernel
theorem dc_Segment_add_38 : decode M_Segment_add.2.1 38 = .ok (.arraylength, 1) := by decide +kernel
theorem dc_Segment_add_39 : decode M_Segment_add.2.1 39 = .ok (.invokestatic 48, 3) := by decide +kernel
theorem dc_Segment_add_42 : decode M_Segment_add.2.1 42 = .ok (.aload_n 0, 1) := by decide +kernel
theorem dc_Segment_add_43 : decode M_Segment_add.2.1 43 = .ok (.dup, 1) := by decide +kernel
theorem dc_Segment_add_44 : decode M_Segment_add.2.1 44 = .ok (.getfield 54, 3) := by decide +kernel
theorem kf_7_54 : rF 7 54 = some (7, 5) := by decide +kernel
theorem dc_Segment_add_47 : decode M_Segment_add.2.1 47 = .ok (.iconst 1, 1) := by decide +kernel
theorem dc_Segment_add_48 : decode M_Segment_add.2.1 48 = .ok (.iadd, 1) := by decide +kernel
theorem dc_Segment_add_49 : decode M_Segment_add.2.1 49 = .ok (.putfield 54, 3) := by decide +kernel
theorem kp_Segment_add_7_5 : fpB M_Segment_add 7 5 = true := by decide +kernel
theorem dc_Segment_add_52 : decode M_Segment_add.2.1 52 = .ok (.return_, 1) := by decide +kernel
theorem kiI_7_5 {z : Int} : fitB 7 5 (vI z) = true := fi_I (by decide +kernel)
theorem dc_Snapshot_init_0 : decode M_Snapshot_init.2.1 0 = .ok (.aload_n 0, 1) := by decide +kernel
theorem dc_Snapshot_init_1 : decode M_Snapshot_init.2.1 1 = .ok (.invokespecial 3, 3) := by decide +kernel
theorem km_8_3 : rM 8 3 = some (3, M_FB_init) := rM_at (j := 0) (p := 666) (by decide +kernel) rfl
theorem dc_Snapshot_init_4 : decode M_Snapshot_init.2.1 4 = .ok (.aload_n 0, 1) := by decide +kernel
theorem dc_Snapshot_init_5 : decode M_Snapshot_init.2.1 5 = .ok (.bipush 10, 2) := by decide +kernel
theorem dc_Snapshot_init_7 : decode M_Snapshot_init.2.1 7 = .ok (.newarray .boolean, 2) := by decide +kernel
theorem dc_Snapshot_init_9 : decode M_Snapshot_init.2.1 9 = .ok (.putfield 9, 3) := by decide +kernel
theorem kf_8_9 : rF 8 9 = some (8, 2) := by decide +kernel
theorem kp_Snapshot_init_8_2 : fpB M_Snapshot_init 8 2 = true := by decide +kernel
theorem dc_Snapshot_init_12 : decode M_Snapshot_init.2.1 12 = .ok (.aload_n 0, 1) := by decide +kernel
theorem dc_Snapshot_init_13 : decode M_Snapshot_init.2.1 13 = .ok (.aload_n 1, 1) := by decide +kernel
theorem dc_Snapshot_init_14 : decode M_Snapshot_init.2.1 14 = .ok (.getfield 15, 3) := by decide +kernel
theorem kf_8_15 : rF 8 15 = some (3, 2) := by decide +kernel
theorem dc_Snapshot_init_17 : decode M_Snapshot_init.2.1 17 = .ok (.anewarray 21, 3) := by decide +kernel
theorem dc_Snapshot_init_20 : decode M_Snapshot_init.2.1 20 = .ok (.putfield 23, 3) := by decide +kernel
theorem kf_8_23 : rF 8 23 = some (8, 0) := by decide +kernel
theorem kp_Snapshot_init_8_0 : fpB M_Snapshot_init 8 0 = true := by decide +kernel
theorem dc_Snapshot_init_23 : decode M_Snapshot_init.2.1 23 = .ok (.iconst 0, 1) := by decide +kernel
theorem dc_Snapshot_init_24 : decode M_Snapshot_init.2.1 24 = .ok (.istore_n 3, 1) := by decide +kernel
theorem kiR_8_0 {z : Option Nm} : fitB 8 0 (vR z) = true := fi_R (by decide +kernel)
theorem ka_8_21 : rA 8 21 = some 6 := by decide +kernel
theorem kiR_8_2 {z : Option Nm} : fitB 8 2 (vR z) = true := fi_R (by decide +kernel)
theorem dc_Snapshot_init_25 : decode M_Snapshot_init.2.1 25 = .ok (.iload_n 3, 1) := by decide +kernel
theorem dc_Snapshot_init_26 : decode M_Snapshot_init.2.1 26 = .ok (.aload_n 1, 1) := by decide +kernel
theorem dc_Snapshot_init_27 : decode M_Snapshot_init.2.1 27 = .ok (.getfield 15, 3) := by decide +kernel
theorem dc_Snapshot_init_30 : decode M_Snapshot_init.2.1 30 = .ok (.if_icmp .ge 21, 3) := by decide +kernel
theorem dc_Snapshot_init_51 : decode M_Snapshot_init.2.1 51 = .ok (.aload_n 0, 1) := by decide +kernel
theorem dc_Snapshot_init_52 : decode M_Snapshot_init.2.1 52 = .ok (.aload_n 1, 1) := by decide +kernel
theorem dc_Snapshot_init_53 : decode M_Snapshot_init.2.1 53 = .ok (.getfield 28, 3) := by decide +kernel
theorem kf_8_28 : rF 8 28 = some (3, 1) := by decide +kernel
theorem dc_Snapshot_init_56 : decode M_Snapshot_init.2.1 56 = .ok (.invokevirtual 32, 3) := by decide +kernel
theorem km_8_32 : rM 8 32 = some (5, M_FB_init) := rM_at (j := 0) (p := 668) (by decide +kernel) rfl
theorem dc_Snapshot_init_59 : decode M_Snapshot_init.2.1 59 = .ok (.checkcast 33, 3) := by decide +kernel
theorem kk_8_33 : rK 8 33 = some 1 := by decide +kernel
theorem dc_Snapshot_init_62 : decode M_Snapshot_init.2.1 62 = .ok (.putfield 37, 3) := by decide +kernel
theorem kf_8_37 : rF 8 37 = some (8, 1) := by decide +kernel
theorem kp_Snapshot_init_8_1 : fpB M_Snapshot_init 8 1 = true := by decide +kernel
theorem dc_Snapshot_init_65 : decode M_Snapshot_init.2.1 65 = .ok (.iconst 0, 1) := by decide +kernel
theorem dc_Snapshot_init_66 : decode M_Snapshot_init.2.1 66 = .ok (.istore_n 3, 1) := by decide +kernel
theorem kiR_8_1 {z : Option Nm} : fitB 8 1 (vR z) = true := fi_R (by decide +kernel)
theorem dc_Snapshot_init_33 : decode M_Snapshot_init.2.1 33 = .ok (.aload_n 0, 1) := by decide +kernel
theorem dc_Snapshot_init_34 : decode M_Snapshot_init.2.1 34 = .ok (.getfield 23, 3) := by decide +kernel
theorem dc_Snapshot_init_37 : decode M_Snapshot_init.2.1 37 = .ok (.iload_n 3, 1) := by decide +kernel
theorem dc_Snapshot_init_38 : decode M_Snapshot_init.2.1 38 = .ok (.aload_n 1, 1) := by decide +kernel
theorem dc_Snapshot_init_39 : decode M_Snapshot_init.2.1 39 = .ok (.getfield 27, 3) := by decide +kernel
theorem kf_8_27 : rF 8 27 = some (3, 0) := by decide +kernel
theorem dc_Snapshot_init_42 : decode M_Snapshot_init.2.1 42 = .ok (.iload_n 3, 1) := by decide +kernel
theorem dc_Snapshot_init_43 : decode M_Snapshot_init.2.1 43 = .ok (.aaload, 1) := by decide +kernel
theorem dc_Snapshot_init_44 : decode M_Snapshot_init.2.1 44 = .ok (.aastore, 1) := by decide +kernel
theorem dc_Snapshot_init_45 : decode M_Snapshot_init.2.1 45 = .ok (.iinc 3 1, 3) := by decide +kernel
theorem dc_Snapshot_init_48 : decode M_Snapshot_init.2.1 48 = .ok (.goto (-23), 3) := by decide +kernel
theorem dc_Snapshot_init_67 : decode M_Snapshot_init.2.1 67 = .ok (.iload_n 3, 1) := by decide +kernel
theorem dc_Snapshot_init_68 : decode M_Snapshot_init.2.1 68 = .ok (.bipush 10, 2) := by decide +kernel
theorem dc_Snapshot_init_70 : decode M_Snapshot_init.2.1 70 = .ok (.if_icmp .ge 20, 3) := by decide +kernel
theorem dc_Snapshot_init_90 : decode M_Snapshot_init.2.1 90 = .ok (.return_, 1) := by decide +kernel
theorem dc_Snapshot_init_73 : decode M_Snapshot_init.2.1 73 = .ok (.aload_n 0, 1) := by decide +kernel
theorem dc_Snapshot_init_74 : decode M_Snapshot_init.2.1 74 = .ok (.getfield 9, 3) := by decide +kernel
theorem dc_Snapshot_init_77 : decode M_Snapshot_init.2.1 77 = .ok (.iload_n 3, 1) := by decide +kernel
theorem dc_Snapshot_init_78 : decode M_Snapshot_init.2.1 78 = .ok (.aload_n 2, 1) := by decide +kernel
theorem dc_Snapshot_init_79 : decode M_Snapshot_init.2.1 79 = .ok (.iload_n 3, 1) := by decide +kernel
theorem dc_Snapshot_init_80 : decode M_Snapshot_init.2.1 80 = .ok (.invokevirtual 38, 3) := by decide +kernel
theorem km_8_38 : rM 8 38 = some (1, M_House_hasFile) := rM_at (j := 27) (p := 675) (by decide +kernel) rfl
theorem dc_Snapshot_init_83 : decode M_Snapshot_init.2.1 83 = .ok (.bastore, 1) := by decide +kernel
theorem dc_Snapshot_init_84 : decode M_Snapshot_init.2.1 84 = .ok (.iinc 3 1, 3) := by decide +kernel
theorem dc_Snapshot_init_87 : decode M_Snapshot_init.2.1 87 = .ok (.goto (-20), 3) := by decide +kernel
theorem dc_House_addSnapshot_0 : decode M_House_addSnapshot.2.1 0 = .ok (.iconst 0, 1) := by decide +kernel
theorem dc_House_addSnapshot_1 : decode M_House_addSnapshot.2.1 1 = .ok (.istore_n 2, 1) := by decide +kernel
theorem dc_House_addSnapshot_2 : decode M_House_addSnapshot.2.1 2 = .ok (.iload_n 2, 1) := by decide +kernel
theorem dc_House_addSnapshot_3 : decode M_House_addSnapshot.2.1 3 = .ok (.aload_n 1, 1) := by decide +kernel
theorem dc_House_addSnapshot_4 : decode M_House_addSnapshot.2.1 4 = .ok (.getfield 94, 3) := by decide +kernel
theorem kf_5_94 : rF 5 94 = some (8, 0) := by decide +kernel
theorem dc_House_addSnapshot_7 : decode M_House_addSnapshot.2.1 7 = .ok (.arraylength, 1) := by decide +kernel
theorem dc_House_addSnapshot_8 : decode M_House_addSnapshot.2.1 8 = .ok (.if_icmp .ge 24, 3) := by decide +kernel
theorem dc_House_addSnapshot_32 : decode M_House_addSnapshot.2.1 32 = .ok (.aload_n 0, 1) := by decide +kernel
theorem dc_House_addSnapshot_33 : decode M_House_addSnapshot.2.1 33 = .ok (.getfield 39, 3) := by decide +kernel
theorem dc_House_addSnapshot_36 : decode M_House_addSnapshot.2.1 36 = .ok (.aload_n 1, 1) := by decide +kernel
theorem dc_House_addSnapshot_37 : decode M_House_addSnapshot.2.1 37 = .ok (.invokevirtual 84, 3) := by decide +kernel
theorem dc_House_addSnapshot_11 : decode M_House_addSnapshot.2.1 11 = .ok (.aload_n 1, 1) := by decide +kernel
theorem dc_House_addSnapshot_12 : decode M_House_addSnapshot.2.1 12 = .ok (.getfield 94, 3) := by decide +kernel
theorem dc_House_addSnapshot_15 : decode M_House_addSnapshot.2.1 15 = .ok (.iload_n 2, 1) := by decide +kernel
theorem dc_House_addSnapshot_16 : decode M_House_addSnapshot.2.1 16 = .ok (.aaload, 1) := by decide +kernel
theorem dc_House_addSnapshot_17 : decode M_House_addSnapshot.2.1 17 = .ok (.dup, 1) := by decide +kernel
theorem dc_House_addSnapshot_18 : decode M_House_addSnapshot.2.1 18 = .ok (.getfield 99, 3) := by decide +kernel
theorem kf_5_99 : rF 5 99 = some (1, 3) := by decide +kernel
theorem dc_House_addSnapshot_21 : decode M_House_addSnapshot.2.1 21 = .ok (.iconst 1, 1) := by decide +kernel
theorem dc_House_addSnapshot_22 : decode M_House_addSnapshot.2.1 22 = .ok (.iadd, 1) := by decide +kernel
theorem dc_House_addSnapshot_23 : decode M_House_addSnapshot.2.1 23 = .ok (.putfield 99, 3) := by decide +kernel
theorem kp_House_addSnapshot_1_3 : fpB M_House_addSnapshot 1 3 = true := by decide +kernel
theorem dc_House_addSnapshot_26 : decode M_House_addSnapshot.2.1 26 = .ok (.iinc 2 1, 3) := by decide +kernel
theorem dc_House_addSnapshot_29 : decode M_House_addSnapshot.2.1 29 = .ok (.goto (-27), 3) := by decide +kernel
theorem kiI_1_3 {z : Int} : fitB 1 3 (vI z) = true := fi_I (by decide +kernel)
theorem dc_House_addSnapshot_40 : decode M_House_addSnapshot.2.1 40 = .ok (.pop, 1) := by decide +kernel
theorem dc_House_addSnapshot_41 : decode M_House_addSnapshot.2.1 41 = .ok (.aload_n 0, 1) := by decide +kernel
theorem dc_House_addSnapshot_42 : decode M_House_addSnapshot.2.1 42 = .ok (.dup, 1) := by decide +kernel
theorem dc_House_addSnapshot_43 : decode M_House_addSnapshot.2.1 43 = .ok (.getfield 102, 3) := by decide +kernel
theorem kf_5_102 : rF 5 102 = some (5, 10) := by decide +kernel
theorem dc_House_addSnapshot_46 : decode M_House_addSnapshot.2.1 46 = .ok (.iconst 1, 1) := by decide +kernel
theorem dc_House_addSnapshot_47 : decode M_House_addSnapshot.2.1 47 = .ok (.iadd, 1) := by decide +kernel
theorem dc_House_addSnapshot_48 : decode M_House_addSnapshot.2.1 48 = .ok (.putfield 102, 3) := by decide +kernel
theorem kp_House_addSnapshot_5_10 : fpB M_House_addSnapshot 5 10 = true := by decide +kernel
theorem dc_House_addSnapshot_51 : decode M_House_addSnapshot.2.1 51 = .ok (.return_, 1) := by decide +kernel
theorem kiI_5_10 {z : Int} : fitB 5 10 (vI z) = true := fi_I (by decide +kernel)
theorem dc_La_push_0 : decode M_La_push.2.1 0 = .ok (.aload_n 2, 1) := by decide +kernel
theorem dc_La_push_1 : decode M_La_push.2.1 1 = .ok (.iconst 0, 1) := by decide +kernel
theorem dc_La_push_2 : decode M_La_push.2.1 2 = .ok (.aload_n 0, 1) := by decide +kernel
theorem dc_La_push_3 : decode M_La_push.2.1 3 = .ok (.iload_n 1, 1) := by decide +kernel
theorem dc_La_push_4 : decode M_La_push.2.1 4 = .ok (.invokevirtual 36, 3) := by decide +kernel
theorem km_11_36 : rM 11 36 = some (1, M_FB_push) := rM_at (j := 61) (p := 702) (by decide +kernel) rfl
theorem np_FB_push : nP M_FB_push = 1 := by decide +kernel
theorem dc_La_push_7 : decode M_La_push.2.1 7 = .ok (.i2l, 1) := by decide +kernel
theorem dc_La_push_8 : decode M_La_push.2.1 8 = .ok (.lastore, 1) := by decide +kernel
theorem dc_La_push_9 : decode M_La_push.2.1 9 = .ok (.goto 9, 3) := by decide +kernel
theorem dc_La_push_18 : decode M_La_push.2.1 18 = .ok (.iconst 0, 1) := by decide +kernel
theorem dc_La_push_19 : decode M_La_push.2.1 19 = .ok (.ireturn, 1) := by decide +kernel
theorem dc_La_push_12 : decode M_La_push.2.1 12 = .ok (.astore_n 3, 1) := by decide +kernel
theorem dc_La_push_13 : decode M_La_push.2.1 13 = .ok (.iconst 1, 1) := by decide +kernel
theorem dc_La_push_14 : decode M_La_push.2.1 14 = .ok (.ireturn, 1) := by decide +kernel
theorem dc_La_push_15 : decode M_La_push.2.1 15 = .ok (.astore_n 3, 1) := by decide +kernel
theorem dc_La_push_16 : decode M_La_push.2.1 16 = .ok (.iconst 2, 1) := by decide +kernel
theorem dc_La_push_17 : decode M_La_push.2.1 17 = .ok (.ireturn, 1) := by decide +kernel
theorem dc_FB_push_0 : decode M_FB_push.2.1 0 = .ok (.aload_n 0, 1) := by decide +kernel
theorem dc_FB_push_1 : decode M_FB_push.2.1 1 = .ok (.iload_n 1, 1) := by decide +kernel
theorem dc_FB_push_2 : decode M_FB_push.2.1 2 = .ok (.invokevirtual 60, 3) := by decide +kernel
theorem dc_FB_push_5 : decode M_FB_push.2.1 5 = .ok (.astore_n 2, 1) := by decide +kernel
theorem dc_FB_push_6 : decode M_FB_push.2.1 6 = .ok (.aload_n 2, 1) := by decide +kernel
theorem dc_FB_push_7 : decode M_FB_push.2.1 7 = .ok (.getfield 75, 3) := by decide +kernel
theorem dc_FB_push_10 : decode M_FB_push.2.1 10 = .ok (.ifCond .ne 14, 3) := by decide +kernel
theorem dc_FB_push_13 : decode M_FB_push.2.1 13 = .ok (.aload_n 2, 1) := by decide +kernel
theorem dc_FB_push_14 : decode M_FB_push.2.1 14 = .ok (.getfield 138, 3) := by decide +kernel
theorem kf_0_138 : rF 0 138 = some (5, 11) := by decide +kernel
theorem dc_FB_push_17 : decode M_FB_push.2.1 17 = .ok (.ifCond .eq 7, 3) := by decide +kernel
theorem dc_FB_push_20 : decode M_FB_push.2.1 20 = .ok (.iconst 1, 1) := by decide +kernel
theorem dc_FB_push_21 : decode M_FB_push.2.1 21 = .ok (.goto 4, 3) := by decide +kernel
theorem dc_FB_push_24 : decode M_FB_push.2.1 24 = .ok (.iconst 0, 1) := by decide +kernel
theorem dc_FB_push_25 : decode M_FB_push.2.1 25 = .ok (.invokestatic 51, 3) := by decide +kernel
theorem dc_FB_push_28 : decode M_FB_push.2.1 28 = .ok (.iconst 0, 1) := by decide +kernel
theorem dc_FB_push_29 : decode M_FB_push.2.1 29 = .ok (.istore_n 3, 1) := by decide +kernel
theorem dc_FB_push_30 : decode M_FB_push.2.1 30 = .ok (.iconst 0, 1) := by decide +kernel
theorem dc_FB_push_31 : decode M_FB_push.2.1 31 = .ok (.istore 4, 2) := by decide +kernel
theorem dc_FB_push_33 : decode M_FB_push.2.1 33 = .ok (.iload 4, 2) := by decide +kernel
theorem dc_FB_push_35 : decode M_FB_push.2.1 35 = .ok (.aload_n 2, 1) := by decide +kernel
theorem dc_FB_push_36 : decode M_FB_push.2.1 36 = .ok (.getfield 141, 3) := by decide +kernel
theorem kf_0_141 : rF 0 141 = some (5, 8) := by decide +kernel
theorem dc_FB_push_39 : decode M_FB_push.2.1 39 = .ok (.invokevirtual 98, 3) := by decide +kernel
theorem dc_FB_push_42 : decode M_FB_push.2.1 42 = .ok (.if_icmp .ge 41, 3) := by decide +kernel
theorem dc_FB_push_83 : decode M_FB_push.2.1 83 = .ok (.iload_n 3, 1) := by decide +kernel
theorem dc_FB_push_84 : decode M_FB_push.2.1 84 = .ok (.ireturn, 1) := by decide +kernel
theorem dc_FB_push_45 : decode M_FB_push.2.1 45 = .ok (.aload_n 2, 1) := by decide +kernel
theorem dc_FB_push_46 : decode M_FB_push.2.1 46 = .ok (.getfield 141, 3) := by decide +kernel
theorem dc_FB_push_49 : decode M_FB_push.2.1 49 = .ok (.iload 4, 2) := by decide +kernel
theorem dc_FB_push_51 : decode M_FB_push.2.1 51 = .ok (.invokevirtual 144, 3) := by decide +kernel
theorem km_0_144 : rM 0 144 = some (1, M_AL_get) := rM_at (j := 36) (p := 706) (by decide +kernel) rfl
theorem dc_FB_push_54 : decode M_FB_push.2.1 54 = .ok (.checkcast 148, 3) := by decide +kernel
theorem kk_0_148 : rK 0 148 = some 107 := by decide +kernel
theorem dc_FB_push_57 : decode M_FB_push.2.1 57 = .ok (.astore 5, 2) := by decide +kernel
theorem dc_FB_push_59 : decode M_FB_push.2.1 59 = .ok (.aload 5, 2) := by decide +kernel
theorem dc_FB_push_61 : decode M_FB_push.2.1 61 = .ok (.getfield 150, 3) := by decide +kernel
theorem kf_0_150 : rF 0 150 = some (7, 3) := by decide +kernel
theorem dc_FB_push_64 : decode M_FB_push.2.1 64 = .ok (.ifCond .eq 13, 3) := by decide +kernel
theorem dc_FB_push_67 : decode M_FB_push.2.1 67 = .ok (.iload_n 3, 1) := by decide +kernel
theorem dc_FB_push_68 : decode M_FB_push.2.1 68 = .ok (.aload_n 0, 1) := by decide +kernel
theorem dc_FB_push_69 : decode M_FB_push.2.1 69 = .ok (.aload_n 2, 1) := by decide +kernel
theorem dc_FB_push_70 : decode M_FB_push.2.1 70 = .ok (.aload 5, 2) := by decide +kernel
theorem dc_FB_push_72 : decode M_FB_push.2.1 72 = .ok (.invokevirtual 153, 3) := by decide +kernel
theorem km_0_153 : rM 0 153 = some (1, M_FB_placeMissing) := rM_at (j := 62) (p := 708) (by decide +kernel) rfl
theorem np_FB_placeMissing : nP M_FB_placeMissing = 2 := by decide +kernel
theorem dc_FB_push_75 : decode M_FB_push.2.1 75 = .ok (.iadd, 1) := by decide +kernel
theorem dc_FB_push_76 : decode M_FB_push.2.1 76 = .ok (.istore_n 3, 1) := by decide +kernel
theorem dc_FB_push_77 : decode M_FB_push.2.1 77 = .ok (.iinc 4 1, 3) := by decide +kernel
theorem dc_FB_push_80 : decode M_FB_push.2.1 80 = .ok (.goto (-47), 3) := by decide +kernel
theorem dc_FB_placeMissing_0 : decode M_FB_placeMissing.2.1 0 = .ok (.iconst 0, 1) := by decide +kernel
theorem dc_FB_placeMissing_1 : decode M_FB_placeMissing.2.1 1 = .ok (.istore_n 3, 1) := by decide +kernel
theorem dc_FB_placeMissing_2 : decode M_FB_placeMissing.2.1 2 = .ok (.iconst 0, 1) := by decide +kernel
theorem dc_FB_placeMissing_3 : decode M_FB_placeMissing.2.1 3 = .ok (.istore 4, 2) := by decide +kernel
theorem dc_FB_placeMissing_5 : decode M_FB_placeMissing.2.1 5 = .ok (.iload 4, 2) := by decide +kernel
theorem dc_FB_placeMissing_7 : decode M_FB_placeMissing.2.1 7 = .ok (.aload_n 2, 1) := by decide +kernel
theorem dc_FB_placeMissing_8 : decode M_FB_placeMissing.2.1 8 = .ok (.getfield 177, 3) := by decide +kernel
theorem kf_0_177 : rF 0 177 = some (7, 2) := by decide +kernel
theorem dc_FB_placeMissing_11 : decode M_FB_placeMissing.2.1 11 = .ok (.arraylength, 1) := by decide +kernel
theorem dc_FB_placeMissing_12 : decode M_FB_placeMissing.2.1 12 = .ok (.if_icmp .ge 36, 3) := by decide +kernel
theorem dc_FB_placeMissing_48 : decode M_FB_placeMissing.2.1 48 = .ok (.iload_n 3, 1) := by decide +kernel
theorem dc_FB_placeMissing_49 : decode M_FB_placeMissing.2.1 49 = .ok (.ireturn, 1) := by decide +kernel
theorem dc_FB_placeMissing_15 : decode M_FB_placeMissing.2.1 15 = .ok (.aload_n 2, 1) := by decide +kernel
theorem dc_FB_placeMissing_16 : decode M_FB_placeMissing.2.1 16 = .ok (.getfield 177, 3) := by decide +kernel
theorem dc_FB_placeMissing_19 : decode M_FB_placeMissing.2.1 19 = .ok (.iload 4, 2) := by decide +kernel
theorem dc_FB_placeMissing_21 : decode M_FB_placeMissing.2.1 21 = .ok (.aaload, 1) := by decide +kernel
theorem dc_FB_placeMissing_22 : decode M_FB_placeMissing.2.1 22 = .ok (.invokevirtual 199, 3) := by decide +kernel
theorem km_0_199 : rM 0 199 = some (1, M_Piece_isPlaced) := rM_at (j := 63) (p := 712) (by decide +kernel) rfl
theorem np_Piece_isPlaced : nP M_Piece_isPlaced = 0 := by decide +kernel
theorem dc_FB_placeMissing_25 : decode M_FB_placeMissing.2.1 25 = .ok (.ifCond .ne 17, 3) := by decide +kernel
theorem dc_FB_placeMissing_28 : decode M_FB_placeMissing.2.1 28 = .ok (.aload_n 0, 1) := by decide +kernel
theorem dc_FB_placeMissing_29 : decode M_FB_placeMissing.2.1 29 = .ok (.aload_n 1, 1) := by decide +kernel
theorem dc_FB_placeMissing_30 : decode M_FB_placeMissing.2.1 30 = .ok (.aload_n 2, 1) := by decide +kernel
theorem dc_FB_placeMissing_31 : decode M_FB_placeMissing.2.1 31 = .ok (.iload 4, 2) := by decide +kernel
theorem dc_FB_placeMissing_33 : decode M_FB_placeMissing.2.1 33 = .ok (.invokevirtual 315, 3) := by decide +kernel
theorem km_0_315 : rM 0 315 = some (1, M_FB_place) := rM_at (j := 64) (p := 716) (by decide +kernel) rfl
theorem np_FB_place : nP M_FB_place = 3 := by decide +kernel
theorem dc_FB_placeMissing_36 : decode M_FB_placeMissing.2.1 36 = .ok (.ifCond .eq 6, 3) := by decide +kernel
theorem dc_FB_placeMissing_39 : decode M_FB_placeMissing.2.1 39 = .ok (.iinc 3 1, 3) := by decide +kernel
theorem dc_FB_placeMissing_42 : decode M_FB_placeMissing.2.1 42 = .ok (.iinc 4 1, 3) := by decide +kernel
theorem dc_FB_placeMissing_45 : decode M_FB_placeMissing.2.1 45 = .ok (.goto (-40), 3) := by decide +kernel
theorem dc_Piece_isPlaced_0 : decode M_Piece_isPlaced.2.1 0 = .ok (.aload_n 0, 1) := by decide +kernel
theorem dc_Piece_isPlaced_1 : decode M_Piece_isPlaced.2.1 1 = .ok (.getfield 15, 3) := by decide +kernel
theorem dc_Piece_isPlaced_4 : decode M_Piece_isPlaced.2.1 4 = .ok (.iconst (-1), 1) := by decide +kernel
theorem dc_Piece_isPlaced_5 : decode M_Piece_isPlaced.2.1 5 = .ok (.if_icmp .eq 7, 3) := by decide +kernel
theorem dc_Piece_isPlaced_12 : decode M_Piece_isPlaced.2.1 12 = .ok (.iconst 0, 1) := by decide +kernel
theorem dc_Piece_isPlaced_8 : decode M_Piece_isPlaced.2.1 8 = .ok (.iconst 1, 1) := by decide +kernel
theorem dc_Piece_isPlaced_9 : decode M_Piece_isPlaced.2.1 9 = .ok (.goto 4, 3) := by decide +kernel
theorem dc_Piece_isPlaced_13 : decode M_Piece_isPlaced.2.1 13 = .ok (.ireturn, 1) := by decide +kernel
theorem dc_FB_place_0 : decode M_FB_place.2.1 0 = .ok (.aload_n 0, 1) := by decide +kernel
theorem dc_FB_place_1 : decode M_FB_place.2.1 1 = .ok (.aload_n 1, 1) := by decide +kernel
theorem dc_FB_place_2 : decode M_FB_place.2.1 2 = .ok (.aload_n 2, 1) := by decide +kernel
theorem dc_FB_place_3 : decode M_FB_place.2.1 3 = .ok (.invokevirtual 319, 3) := by decide +kernel
theorem km_0_319 : rM 0 319 = some (1, M_FB_bestKeeper) := rM_at (j := 65) (p := 720) (by decide +kernel) rfl
theorem np_FB_bestKeeper : nP M_FB_bestKeeper = 2 := by decide +kernel
theorem dc_FB_place_6 : decode M_FB_place.2.1 6 = .ok (.astore 4, 2) := by decide +kernel
theorem dc_FB_place_8 : decode M_FB_place.2.1 8 = .ok (.aload 4, 2) := by decide +kernel
theorem dc_FB_place_10 : decode M_FB_place.2.1 10 = .ok (.ifnonnull 5, 3) := by decide +kernel
theorem dc_FB_place_15 : decode M_FB_place.2.1 15 = .ok (.aload_n 2, 1) := by decide +kernel
theorem dc_FB_place_16 : decode M_FB_place.2.1 16 = .ok (.getfield 177, 3) := by decide +kernel
theorem dc_FB_place_19 : decode M_FB_place.2.1 19 = .ok (.iload_n 3, 1) := by decide +kernel
theorem dc_FB_place_20 : decode M_FB_place.2.1 20 = .ok (.aaload, 1) := by decide +kernel
theorem dc_FB_place_21 : decode M_FB_place.2.1 21 = .ok (.astore 5, 2) := by decide +kernel
theorem dc_FB_place_23 : decode M_FB_place.2.1 23 = .ok (.aload_n 0, 1) := by decide +kernel
theorem dc_FB_place_24 : decode M_FB_place.2.1 24 = .ok (.getfield 18, 3) := by decide +kernel
theorem dc_FB_place_27 : decode M_FB_place.2.1 27 = .ok (.aload_n 2, 1) := by decide +kernel
theorem dc_FB_place_28 : decode M_FB_place.2.1 28 = .ok (.getfield 232, 3) := by decide +kernel
theorem kf_0_232 : rF 0 232 = some (7, 1) := by decide +kernel
theorem dc_FB_place_31 : decode M_FB_place.2.1 31 = .ok (.iload_n 3, 1) := by decide +kernel
theorem dc_FB_place_32 : decode M_FB_place.2.1 32 = .ok (.aload 5, 2) := by decide +kernel
theorem dc_FB_place_34 : decode M_FB_place.2.1 34 = .ok (.getfield 186, 3) := by decide +kernel
theorem kf_0_186 : rF 0 186 = some (6, 0) := by decide +kernel
theorem dc_FB_place_37 : decode M_FB_place.2.1 37 = .ok (.invokevirtual 311, 3) := by decide +kernel
theorem km_0_311 : rM 0 311 = some (1, M_Coder_encode) := rM_at (j := 69) (p := 736) (by decide +kernel) rfl
theorem np_Coder_encode : nP M_Coder_encode = 3 := by decide +kernel
theorem dc_FB_place_13 : decode M_FB_place.2.1 13 = .ok (.iconst 0, 1) := by decide +kernel
theorem dc_FB_place_14 : decode M_FB_place.2.1 14 = .ok (.ireturn, 1) := by decide +kernel
theorem dc_FB_place_40 : decode M_FB_place.2.1 40 = .ok (.aload_n 0, 1) := by decide +kernel
theorem dc_FB_place_41 : decode M_FB_place.2.1 41 = .ok (.getfield 18, 3) := by decide +kernel
theorem dc_FB_place_44 : decode M_FB_place.2.1 44 = .ok (.aload 5, 2) := by decide +kernel
theorem dc_FB_place_46 : decode M_FB_place.2.1 46 = .ok (.getfield 186, 3) := by decide +kernel
theorem dc_FB_place_49 : decode M_FB_place.2.1 49 = .ok (.aload 5, 2) := by decide +kernel
theorem dc_FB_place_51 : decode M_FB_place.2.1 51 = .ok (.getfield 216, 3) := by decide +kernel
theorem kf_0_216 : rF 0 216 = some (6, 1) := by decide +kernel
theorem dc_FB_place_54 : decode M_FB_place.2.1 54 = .ok (.invokevirtual 323, 3) := by decide +kernel
theorem km_0_323 : rM 0 323 = some (1, M_Coder_answerAll) := rM_at (j := 71) (p := 744) (by decide +kernel) rfl
theorem np_Coder_answerAll : nP M_Coder_answerAll = 2 := by decide +kernel
theorem dc_FB_place_57 : decode M_FB_place.2.1 57 = .ok (.aload 5, 2) := by decide +kernel
theorem dc_FB_place_59 : decode M_FB_place.2.1 59 = .ok (.aload 4, 2) := by decide +kernel
theorem dc_FB_place_61 : decode M_FB_place.2.1 61 = .ok (.getfield 290, 3) := by decide +kernel
theorem kf_0_290 : rF 0 290 = some (5, 0) := by decide +kernel
theorem dc_FB_place_64 : decode M_FB_place.2.1 64 = .ok (.putfield 206, 3) := by decide +kernel
theorem kf_0_206 : rF 0 206 = some (6, 2) := by decide +kernel
theorem kp_FB_place_6_2 : fpB M_FB_place 6 2 = true := by decide +kernel
theorem dc_FB_place_67 : decode M_FB_place.2.1 67 = .ok (.aload 5, 2) := by decide +kernel
theorem dc_FB_place_69 : decode M_FB_place.2.1 69 = .ok (.iconst 1, 1) := by decide +kernel
theorem dc_FB_place_70 : decode M_FB_place.2.1 70 = .ok (.putfield 181, 3) := by decide +kernel
theorem kf_0_181 : rF 0 181 = some (6, 3) := by decide +kernel
theorem kp_FB_place_6_3 : fpB M_FB_place 6 3 = true := by decide +kernel
theorem dc_FB_place_73 : decode M_FB_place.2.1 73 = .ok (.aload 5, 2) := by decide +kernel
theorem dc_FB_place_75 : decode M_FB_place.2.1 75 = .ok (.iconst 0, 1) := by decide +kernel
theorem dc_FB_place_76 : decode M_FB_place.2.1 76 = .ok (.putfield 203, 3) := by decide +kernel
theorem kf_0_203 : rF 0 203 = some (6, 4) := by decide +kernel
theorem kp_FB_place_6_4 : fpB M_FB_place 6 4 = true := by decide +kernel
theorem dc_FB_place_79 : decode M_FB_place.2.1 79 = .ok (.aload 4, 2) := by decide +kernel
theorem dc_FB_place_81 : decode M_FB_place.2.1 81 = .ok (.getfield 160, 3) := by decide +kernel
theorem kf_0_160 : rF 0 160 = some (5, 3) := by decide +kernel
theorem dc_FB_place_84 : decode M_FB_place.2.1 84 = .ok (.aload_n 1, 1) := by decide +kernel
theorem dc_FB_place_85 : decode M_FB_place.2.1 85 = .ok (.getfield 290, 3) := by decide +kernel
theorem dc_FB_place_88 : decode M_FB_place.2.1 88 = .ok (.dup2, 1) := by decide +kernel
theorem dc_FB_place_89 : decode M_FB_place.2.1 89 = .ok (.iaload, 1) := by decide +kernel
theorem dc_FB_place_90 : decode M_FB_place.2.1 90 = .ok (.iconst 1, 1) := by decide +kernel
theorem dc_FB_place_91 : decode M_FB_place.2.1 91 = .ok (.iadd, 1) := by decide +kernel
theorem dc_FB_place_92 : decode M_FB_place.2.1 92 = .ok (.iastore, 1) := by decide +kernel
theorem dc_FB_place_93 : decode M_FB_place.2.1 93 = .ok (.aload_n 1, 1) := by decide +kernel
theorem dc_FB_place_94 : decode M_FB_place.2.1 94 = .ok (.iconst 1, 1) := by decide +kernel
theorem dc_FB_place_95 : decode M_FB_place.2.1 95 = .ok (.putfield 189, 3) := by decide +kernel
theorem kf_0_189 : rF 0 189 = some (5, 13) := by decide +kernel
theorem kp_FB_place_5_13 : fpB M_FB_place 5 13 = true := by decide +kernel
theorem dc_FB_place_98 : decode M_FB_place.2.1 98 = .ok (.iconst 1, 1) := by decide +kernel
theorem dc_FB_place_99 : decode M_FB_place.2.1 99 = .ok (.ireturn, 1) := by decide +kernel
theorem kiZ_5_13 {z : Int} : fitB 5 13 (vI z) = true ↔ (z = 0 ∨ z = 1) := fi_Z (by decide +kernel)
theorem kiI_6_4 {z : Int} : fitB 6 4 (vI z) = true := fi_I (by decide +kernel)
theorem kiZ_6_3 {z : Int} : fitB 6 3 (vI z) = true ↔ (z = 0 ∨ z = 1) := fi_Z (by decide +kernel)
theorem dc_FB_bestKeeper_0 : decode M_FB_bestKeeper.2.1 0 = .ok (.aconst_null, 1) := by decide +kernel
theorem dc_FB_bestKeeper_1 : decode M_FB_bestKeeper.2.1 1 = .ok (.astore_n 3, 1) := by decide +kernel
theorem dc_FB_bestKeeper_2 : decode M_FB_bestKeeper.2.1 2 = .ok (.iconst 0, 1) := by decide +kernel
theorem dc_FB_bestKeeper_3 : decode M_FB_bestKeeper.2.1 3 = .ok (.istore 4, 2) := by decide +kernel
theorem dc_FB_bestKeeper_5 : decode M_FB_bestKeeper.2.1 5 = .ok (.iconst 0, 1) := by decide +kernel
theorem dc_FB_bestKeeper_6 : decode M_FB_bestKeeper.2.1 6 = .ok (.istore 5, 2) := by decide +kernel
theorem dc_FB_bestKeeper_8 : decode M_FB_bestKeeper.2.1 8 = .ok (.iload 5, 2) := by decide +kernel
theorem dc_FB_bestKeeper_10 : decode M_FB_bestKeeper.2.1 10 = .ok (.bipush 10, 2) := by decide +kernel
theorem dc_FB_bestKeeper_12 : decode M_FB_bestKeeper.2.1 12 = .ok (.if_icmp .ge 73, 3) := by decide +kernel
theorem dc_FB_bestKeeper_85 : decode M_FB_bestKeeper.2.1 85 = .ok (.aload_n 3, 1) := by decide +kernel
theorem dc_FB_bestKeeper_86 : decode M_FB_bestKeeper.2.1 86 = .ok (.areturn, 1) := by decide +kernel
theorem dc_FB_bestKeeper_15 : decode M_FB_bestKeeper.2.1 15 = .ok (.aload_n 0, 1) := by decide +kernel
theorem dc_FB_bestKeeper_16 : decode M_FB_bestKeeper.2.1 16 = .ok (.getfield 11, 3) := by decide +kernel
theorem dc_FB_bestKeeper_19 : decode M_FB_bestKeeper.2.1 19 = .ok (.iload 5, 2) := by decide +kernel
theorem dc_FB_bestKeeper_21 : decode M_FB_bestKeeper.2.1 21 = .ok (.aaload, 1) := by decide +kernel
theorem dc_FB_bestKeeper_22 : decode M_FB_bestKeeper.2.1 22 = .ok (.astore 6, 2) := by decide +kernel
theorem dc_FB_bestKeeper_24 : decode M_FB_bestKeeper.2.1 24 = .ok (.aload 6, 2) := by decide +kernel
theorem dc_FB_bestKeeper_26 : decode M_FB_bestKeeper.2.1 26 = .ok (.ifnull 53, 3) := by decide +kernel
theorem dc_FB_bestKeeper_29 : decode M_FB_bestKeeper.2.1 29 = .ok (.aload 6, 2) := by decide +kernel
theorem dc_FB_bestKeeper_31 : decode M_FB_bestKeeper.2.1 31 = .ok (.aload_n 1, 1) := by decide +kernel
theorem dc_FB_bestKeeper_32 : decode M_FB_bestKeeper.2.1 32 = .ok (.getfield 290, 3) := by decide +kernel
theorem dc_FB_bestKeeper_35 : decode M_FB_bestKeeper.2.1 35 = .ok (.invokevirtual 327, 3) := by decide +kernel
theorem km_0_327 : rM 0 327 = some (1, M_House_canTakeFrom) := rM_at (j := 66) (p := 724) (by decide +kernel) rfl
theorem np_House_canTakeFrom : nP M_House_canTakeFrom = 1 := by decide +kernel
theorem dc_FB_bestKeeper_38 : decode M_FB_bestKeeper.2.1 38 = .ok (.ifCond .eq 41, 3) := by decide +kernel
theorem dc_FB_bestKeeper_41 : decode M_FB_bestKeeper.2.1 41 = .ok (.aload_n 2, 1) := by decide +kernel
theorem dc_FB_bestKeeper_42 : decode M_FB_bestKeeper.2.1 42 = .ok (.iload 5, 2) := by decide +kernel
theorem dc_FB_bestKeeper_44 : decode M_FB_bestKeeper.2.1 44 = .ok (.invokevirtual 173, 3) := by decide +kernel
theorem km_0_173 : rM 0 173 = some (1, M_Segment_pieceWith) := rM_at (j := 67) (p := 728) (by decide +kernel) rfl
theorem np_Segment_pieceWith : nP M_Segment_pieceWith = 1 := by decide +kernel
theorem dc_FB_bestKeeper_47 : decode M_FB_bestKeeper.2.1 47 = .ok (.iconst (-1), 1) := by decide +kernel
theorem dc_FB_bestKeeper_48 : decode M_FB_bestKeeper.2.1 48 = .ok (.if_icmp .eq 6, 3) := by decide +kernel
theorem dc_FB_bestKeeper_54 : decode M_FB_bestKeeper.2.1 54 = .ok (.aload 6, 2) := by decide +kernel
theorem dc_FB_bestKeeper_56 : decode M_FB_bestKeeper.2.1 56 = .ok (.invokevirtual 287, 3) := by decide +kernel
theorem km_0_287 : rM 0 287 = some (1, M_House_countKept) := rM_at (j := 68) (p := 732) (by decide +kernel) rfl
theorem np_House_countKept : nP M_House_countKept = 0 := by decide +kernel
theorem dc_FB_bestKeeper_51 : decode M_FB_bestKeeper.2.1 51 = .ok (.goto 28, 3) := by decide +kernel
theorem dc_FB_bestKeeper_59 : decode M_FB_bestKeeper.2.1 59 = .ok (.istore 7, 2) := by decide +kernel
theorem dc_FB_bestKeeper_61 : decode M_FB_bestKeeper.2.1 61 = .ok (.aload_n 3, 1) := by decide +kernel
theorem dc_FB_bestKeeper_62 : decode M_FB_bestKeeper.2.1 62 = .ok (.ifnull 10, 3) := by decide +kernel
theorem dc_FB_bestKeeper_65 : decode M_FB_bestKeeper.2.1 65 = .ok (.iload 7, 2) := by decide +kernel
theorem dc_FB_bestKeeper_67 : decode M_FB_bestKeeper.2.1 67 = .ok (.iload 4, 2) := by decide +kernel
theorem dc_FB_bestKeeper_69 : decode M_FB_bestKeeper.2.1 69 = .ok (.if_icmp .ge 10, 3) := by decide +kernel
theorem dc_FB_bestKeeper_72 : decode M_FB_bestKeeper.2.1 72 = .ok (.aload 6, 2) := by decide +kernel
theorem dc_FB_bestKeeper_74 : decode M_FB_bestKeeper.2.1 74 = .ok (.astore_n 3, 1) := by decide +kernel
theorem dc_FB_bestKeeper_75 : decode M_FB_bestKeeper.2.1 75 = .ok (.iload 7, 2) := by decide +kernel
theorem dc_FB_bestKeeper_77 : decode M_FB_bestKeeper.2.1 77 = .ok (.istore 4, 2) := by decide +kernel
theorem dc_FB_bestKeeper_79 : decode M_FB_bestKeeper.2.1 79 = .ok (.iinc 5 1, 3) := by decide +kernel
theorem dc_FB_bestKeeper_82 : decode M_FB_bestKeeper.2.1 82 = .ok (.goto (-74), 3) := by decide +kernel
theorem dc_House_canTakeFrom_0 : decode M_House_canTakeFrom.2.1 0 = .ok (.aload_n 0, 1) := by decide +kernel
theorem dc_House_canTakeFrom_1 : decode M_House_canTakeFrom.2.1 1 = .ok (.getfield 42, 3) := by decide +kernel
theorem dc_House_canTakeFrom_4 : decode M_House_canTakeFrom.2.1 4 = .ok (.ifCond .eq 29, 3) := by decide +kernel
theorem dc_House_canTakeFrom_7 : decode M_House_canTakeFrom.2.1 7 = .ok (.aload_n 0, 1) := by decide +kernel
theorem dc_House_canTakeFrom_8 : decode M_House_canTakeFrom.2.1 8 = .ok (.getfield 53, 3) := by decide +kernel
theorem kf_5_53 : rF 5 53 = some (5, 12) := by decide +kernel
theorem dc_House_canTakeFrom_11 : decode M_House_canTakeFrom.2.1 11 = .ok (.ifCond .ne 22, 3) := by decide +kernel
theorem dc_House_canTakeFrom_14 : decode M_House_canTakeFrom.2.1 14 = .ok (.aload_n 0, 1) := by decide +kernel
theorem dc_House_canTakeFrom_15 : decode M_House_canTakeFrom.2.1 15 = .ok (.getfield 15, 3) := by decide +kernel
theorem dc_House_canTakeFrom_18 : decode M_House_canTakeFrom.2.1 18 = .ok (.iload_n 1, 1) := by decide +kernel
theorem dc_House_canTakeFrom_19 : decode M_House_canTakeFrom.2.1 19 = .ok (.iaload, 1) := by decide +kernel
theorem dc_House_canTakeFrom_20 : decode M_House_canTakeFrom.2.1 20 = .ok (.aload_n 0, 1) := by decide +kernel
theorem dc_House_canTakeFrom_21 : decode M_House_canTakeFrom.2.1 21 = .ok (.getfield 9, 3) := by decide +kernel
theorem dc_House_canTakeFrom_24 : decode M_House_canTakeFrom.2.1 24 = .ok (.iload_n 1, 1) := by decide +kernel
theorem dc_House_canTakeFrom_25 : decode M_House_canTakeFrom.2.1 25 = .ok (.iaload, 1) := by decide +kernel
theorem dc_House_canTakeFrom_26 : decode M_House_canTakeFrom.2.1 26 = .ok (.if_icmp .ge 7, 3) := by decide +kernel
theorem dc_House_canTakeFrom_29 : decode M_House_canTakeFrom.2.1 29 = .ok (.iconst 1, 1) := by decide +kernel
theorem dc_House_canTakeFrom_30 : decode M_House_canTakeFrom.2.1 30 = .ok (.goto 4, 3) := by decide +kernel
theorem dc_House_canTakeFrom_33 : decode M_House_canTakeFrom.2.1 33 = .ok (.iconst 0, 1) := by decide +kernel
theorem dc_House_canTakeFrom_34 : decode M_House_canTakeFrom.2.1 34 = .ok (.ireturn, 1) := by decide +kernel
theorem dc_Segment_pieceWith_0 : decode M_Segment_pieceWith.2.1 0 = .ok (.iconst 0, 1) := by decide +kernel
theorem dc_Segment_pieceWith_1 : decode M_Segment_pieceWith.2.1 1 = .ok (.istore_n 2, 1) := by decide +kernel
theorem dc_Segment_pieceWith_2 : decode M_Segment_pieceWith.2.1 2 = .ok (.iload_n 2, 1) := by decide +kernel
theorem dc_Segment_pieceWith_3 : decode M_Segment_pieceWith.2.1 3 = .ok (.aload_n 0, 1) := by decide +kernel
theorem dc_Segment_pieceWith_4 : decode M_Segment_pieceWith.2.1 4 = .ok (.getfield 30, 3) := by decide +kernel
theorem dc_Segment_pieceWith_7 : decode M_Segment_pieceWith.2.1 7 = .ok (.arraylength, 1) := by decide +kernel
theorem dc_Segment_pieceWith_8 : decode M_Segment_pieceWith.2.1 8 = .ok (.if_icmp .ge 24, 3) := by decide +kernel
theorem dc_Segment_pieceWith_32 : decode M_Segment_pieceWith.2.1 32 = .ok (.iconst (-1), 1) := by decide +kernel
theorem dc_Segment_pieceWith_33 : decode M_Segment_pieceWith.2.1 33 = .ok (.ireturn, 1) := by decide +kernel
theorem dc_Segment_pieceWith_11 : decode M_Segment_pieceWith.2.1 11 = .ok (.aload_n 0, 1) := by decide +kernel
theorem dc_Segment_pieceWith_12 : decode M_Segment_pieceWith.2.1 12 = .ok (.getfield 30, 3) := by decide +kernel
theorem dc_Segment_pieceWith_15 : decode M_Segment_pieceWith.2.1 15 = .ok (.iload_n 2, 1) := by decide +kernel
theorem dc_Segment_pieceWith_16 : decode M_Segment_pieceWith.2.1 16 = .ok (.aaload, 1) := by decide +kernel
theorem dc_Segment_pieceWith_17 : decode M_Segment_pieceWith.2.1 17 = .ok (.getfield 57, 3) := by decide +kernel
theorem kf_7_57 : rF 7 57 = some (6, 2) := by decide +kernel
theorem dc_Segment_pieceWith_20 : decode M_Segment_pieceWith.2.1 20 = .ok (.iload_n 1, 1) := by decide +kernel
theorem dc_Segment_pieceWith_21 : decode M_Segment_pieceWith.2.1 21 = .ok (.if_icmp .ne 5, 3) := by decide +kernel
theorem dc_Segment_pieceWith_26 : decode M_Segment_pieceWith.2.1 26 = .ok (.iinc 2 1, 3) := by decide +kernel
theorem dc_Segment_pieceWith_29 : decode M_Segment_pieceWith.2.1 29 = .ok (.goto (-27), 3) := by decide +kernel
theorem dc_Segment_pieceWith_24 : decode M_Segment_pieceWith.2.1 24 = .ok (.iload_n 2, 1) := by decide +kernel
theorem dc_Segment_pieceWith_25 : decode M_Segment_pieceWith.2.1 25 = .ok (.ireturn, 1) := by decide +kernel
theorem dc_House_countKept_0 : decode M_House_countKept.2.1 0 = .ok (.iconst 0, 1) := by decide +kernel
theorem dc_House_countKept_1 : decode M_House_countKept.2.1 1 = .ok (.istore_n 1, 1) := by decide +kernel
theorem dc_House_countKept_2 : decode M_House_countKept.2.1 2 = .ok (.iconst 0, 1) := by decide +kernel
theorem dc_House_countKept_3 : decode M_House_countKept.2.1 3 = .ok (.istore_n 2, 1) := by decide +kernel
theorem dc_House_countKept_4 : decode M_House_countKept.2.1 4 = .ok (.iload_n 2, 1) := by decide +kernel
theorem dc_House_countKept_5 : decode M_House_countKept.2.1 5 = .ok (.bipush 10, 2) := by decide +kernel
theorem dc_House_countKept_7 : decode M_House_countKept.2.1 7 = .ok (.if_icmp .ge 18, 3) := by decide +kernel
theorem dc_House_countKept_25 : decode M_House_countKept.2.1 25 = .ok (.iload_n 1, 1) := by decide +kernel
theorem dc_House_countKept_26 : decode M_House_countKept.2.1 26 = .ok (.ireturn, 1) := by decide +kernel
theorem dc_House_countKept_10 : decode M_House_countKept.2.1 10 = .ok (.iload_n 1, 1) := by decide +kernel
theorem dc_House_countKept_11 : decode M_House_countKept.2.1 11 = .ok (.aload_n 0, 1) := by decide +kernel
theorem dc_House_countKept_12 : decode M_House_countKept.2.1 12 = .ok (.getfield 15, 3) := by decide +kernel
theorem dc_House_countKept_15 : decode M_House_countKept.2.1 15 = .ok (.iload_n 2, 1) := by decide +kernel
theorem dc_House_countKept_16 : decode M_House_countKept.2.1 16 = .ok (.iaload, 1) := by decide +kernel
theorem dc_House_countKept_17 : decode M_House_countKept.2.1 17 = .ok (.iadd, 1) := by decide +kernel
theorem dc_House_countKept_18 : decode M_House_countKept.2.1 18 = .ok (.istore_n 1, 1) := by decide +kernel
theorem dc_House_countKept_19 : decode M_House_countKept.2.1 19 = .ok (.iinc 2 1, 3) := by decide +kernel
theorem dc_House_countKept_22 : decode M_House_countKept.2.1 22 = .ok (.goto (-18), 3) := by decide +kernel
theorem dc_Coder_encode_0 : decode M_Coder_encode.2.1 0 = .ok (.iconst 0, 1) := by decide +kernel
theorem dc_Coder_encode_1 : decode M_Coder_encode.2.1 1 = .ok (.istore 4, 2) := by decide +kernel
theorem dc_Coder_encode_3 : decode M_Coder_encode.2.1 3 = .ok (.iload 4, 2) := by decide +kernel
theorem dc_Coder_encode_5 : decode M_Coder_encode.2.1 5 = .ok (.aload_n 0, 1) := by decide +kernel
theorem dc_Coder_encode_6 : decode M_Coder_encode.2.1 6 = .ok (.getfield 41, 3) := by decide +kernel
theorem dc_Coder_encode_9 : decode M_Coder_encode.2.1 9 = .ok (.if_icmp .ge 69, 3) := by decide +kernel
theorem dc_Coder_encode_78 : decode M_Coder_encode.2.1 78 = .ok (.return_, 1) := by decide +kernel
theorem dc_Coder_encode_12 : decode M_Coder_encode.2.1 12 = .ok (.iconst 0, 1) := by decide +kernel
theorem dc_Coder_encode_13 : decode M_Coder_encode.2.1 13 = .ok (.istore 5, 2) := by decide +kernel
theorem dc_Coder_encode_15 : decode M_Coder_encode.2.1 15 = .ok (.iconst 0, 1) := by decide +kernel
theorem dc_Coder_encode_16 : decode M_Coder_encode.2.1 16 = .ok (.istore 6, 2) := by decide +kernel
theorem dc_Coder_encode_18 : decode M_Coder_encode.2.1 18 = .ok (.iload 6, 2) := by decide +kernel
theorem dc_Coder_encode_20 : decode M_Coder_encode.2.1 20 = .ok (.aload_n 0, 1) := by decide +kernel
theorem dc_Coder_encode_21 : decode M_Coder_encode.2.1 21 = .ok (.getfield 34, 3) := by decide +kernel
theorem dc_Coder_encode_24 : decode M_Coder_encode.2.1 24 = .ok (.if_icmp .ge 42, 3) := by decide +kernel
theorem dc_Coder_encode_66 : decode M_Coder_encode.2.1 66 = .ok (.aload_n 3, 1) := by decide +kernel
theorem dc_Coder_encode_67 : decode M_Coder_encode.2.1 67 = .ok (.iload 4, 2) := by decide +kernel
theorem dc_Coder_encode_69 : decode M_Coder_encode.2.1 69 = .ok (.iload 5, 2) := by decide +kernel
theorem dc_Coder_encode_71 : decode M_Coder_encode.2.1 71 = .ok (.iastore, 1) := by decide +kernel
theorem dc_Coder_encode_72 : decode M_Coder_encode.2.1 72 = .ok (.iinc 4 1, 3) := by decide +kernel
theorem dc_Coder_encode_75 : decode M_Coder_encode.2.1 75 = .ok (.goto (-72), 3) := by decide +kernel
theorem dc_Coder_encode_27 : decode M_Coder_encode.2.1 27 = .ok (.iload 5, 2) := by decide +kernel
theorem dc_Coder_encode_29 : decode M_Coder_encode.2.1 29 = .ok (.aload_n 0, 1) := by decide +kernel
theorem dc_Coder_encode_30 : decode M_Coder_encode.2.1 30 = .ok (.getfield 12, 3) := by decide +kernel
theorem dc_Coder_encode_33 : decode M_Coder_encode.2.1 33 = .ok (.aload_n 0, 1) := by decide +kernel
theorem dc_Coder_encode_34 : decode M_Coder_encode.2.1 34 = .ok (.getfield 20, 3) := by decide +kernel
theorem dc_Coder_encode_37 : decode M_Coder_encode.2.1 37 = .ok (.iload_n 2, 1) := by decide +kernel
theorem dc_Coder_encode_38 : decode M_Coder_encode.2.1 38 = .ok (.aaload, 1) := by decide +kernel
theorem dc_Coder_encode_39 : decode M_Coder_encode.2.1 39 = .ok (.iload 6, 2) := by decide +kernel
theorem dc_Coder_encode_41 : decode M_Coder_encode.2.1 41 = .ok (.iaload, 1) := by decide +kernel
theorem dc_Coder_encode_42 : decode M_Coder_encode.2.1 42 = .ok (.aload_n 1, 1) := by decide +kernel
theorem dc_Coder_encode_43 : decode M_Coder_encode.2.1 43 = .ok (.iload 6, 2) := by decide +kernel
theorem dc_Coder_encode_45 : decode M_Coder_encode.2.1 45 = .ok (.aload_n 0, 1) := by decide +kernel
theorem dc_Coder_encode_46 : decode M_Coder_encode.2.1 46 = .ok (.getfield 41, 3) := by decide +kernel
theorem dc_Coder_encode_49 : decode M_Coder_encode.2.1 49 = .ok (.imul, 1) := by decide +kernel
theorem dc_Coder_encode_50 : decode M_Coder_encode.2.1 50 = .ok (.iload 4, 2) := by decide +kernel
theorem dc_Coder_encode_52 : decode M_Coder_encode.2.1 52 = .ok (.iadd, 1) := by decide +kernel
theorem dc_Coder_encode_53 : decode M_Coder_encode.2.1 53 = .ok (.iaload, 1) := by decide +kernel
theorem dc_Coder_encode_54 : decode M_Coder_encode.2.1 54 = .ok (.invokevirtual 44, 3) := by decide +kernel
theorem km_2_44 : rM 2 44 = some (1, M_Field_times) := rM_at (j := 70) (p := 740) (by decide +kernel) rfl
theorem np_Field_times : nP M_Field_times = 2 := by decide +kernel
theorem dc_Coder_encode_57 : decode M_Coder_encode.2.1 57 = .ok (.ixor, 1) := by decide +kernel
theorem dc_Coder_encode_58 : decode M_Coder_encode.2.1 58 = .ok (.istore 5, 2) := by decide +kernel
theorem dc_Coder_encode_60 : decode M_Coder_encode.2.1 60 = .ok (.iinc 6 1, 3) := by decide +kernel
theorem dc_Coder_encode_63 : decode M_Coder_encode.2.1 63 = .ok (.goto (-45), 3) := by decide +kernel
theorem dc_Field_times_0 : decode M_Field_times.2.1 0 = .ok (.iload_n 1, 1) := by decide +kernel
theorem dc_Field_times_1 : decode M_Field_times.2.1 1 = .ok (.ifCond .eq 7, 3) := by decide +kernel
theorem dc_Field_times_4 : decode M_Field_times.2.1 4 = .ok (.iload_n 2, 1) := by decide +kernel
theorem dc_Field_times_5 : decode M_Field_times.2.1 5 = .ok (.ifCond .ne 7, 3) := by decide +kernel
theorem dc_Field_times_12 : decode M_Field_times.2.1 12 = .ok (.aload_n 0, 1) := by decide +kernel
theorem dc_Field_times_13 : decode M_Field_times.2.1 13 = .ok (.getfield 9, 3) := by decide +kernel
theorem dc_Field_times_16 : decode M_Field_times.2.1 16 = .ok (.aload_n 0, 1) := by decide +kernel
theorem dc_Field_times_17 : decode M_Field_times.2.1 17 = .ok (.getfield 15, 3) := by decide +kernel
theorem dc_Field_times_20 : decode M_Field_times.2.1 20 = .ok (.iload_n 1, 1) := by decide +kernel
theorem dc_Field_times_21 : decode M_Field_times.2.1 21 = .ok (.iaload, 1) := by decide +kernel
theorem dc_Field_times_22 : decode M_Field_times.2.1 22 = .ok (.aload_n 0, 1) := by decide +kernel
theorem dc_Field_times_23 : decode M_Field_times.2.1 23 = .ok (.getfield 15, 3) := by decide +kernel
theorem dc_Field_times_26 : decode M_Field_times.2.1 26 = .ok (.iload_n 2, 1) := by decide +kernel
theorem dc_Field_times_27 : decode M_Field_times.2.1 27 = .ok (.iaload, 1) := by decide +kernel
theorem dc_Field_times_28 : decode M_Field_times.2.1 28 = .ok (.iadd, 1) := by decide +kernel
theorem dc_Field_times_29 : decode M_Field_times.2.1 29 = .ok (.iaload, 1) := by decide +kernel
theorem dc_Field_times_8 : decode M_Field_times.2.1 8 = .ok (.iconst 0, 1) := by decide +kernel
theorem dc_Field_times_9 : decode M_Field_times.2.1 9 = .ok (.goto 21, 3) := by decide +kernel
theorem dc_Field_times_30 : decode M_Field_times.2.1 30 = .ok (.ireturn, 1) := by decide +kernel
theorem dc_Coder_answerAll_0 : decode M_Coder_answerAll.2.1 0 = .ok (.iconst 0, 1) := by decide +kernel
theorem dc_Coder_answerAll_1 : decode M_Coder_answerAll.2.1 1 = .ok (.istore_n 3, 1) := by decide +kernel
theorem dc_Coder_answerAll_2 : decode M_Coder_answerAll.2.1 2 = .ok (.iload_n 3, 1) := by decide +kernel
theorem dc_Coder_answerAll_3 : decode M_Coder_answerAll.2.1 3 = .ok (.bipush 8, 2) := by decide +kernel
theorem dc_Coder_answerAll_5 : decode M_Coder_answerAll.2.1 5 = .ok (.if_icmp .ge 18, 3) := by decide +kernel
theorem dc_Coder_answerAll_23 : decode M_Coder_answerAll.2.1 23 = .ok (.return_, 1) := by decide +kernel
theorem dc_Coder_answerAll_8 : decode M_Coder_answerAll.2.1 8 = .ok (.aload_n 2, 1) := by decide +kernel
theorem dc_Coder_answerAll_9 : decode M_Coder_answerAll.2.1 9 = .ok (.iload_n 3, 1) := by decide +kernel
theorem dc_Coder_answerAll_10 : decode M_Coder_answerAll.2.1 10 = .ok (.aload_n 0, 1) := by decide +kernel
theorem dc_Coder_answerAll_11 : decode M_Coder_answerAll.2.1 11 = .ok (.aload_n 1, 1) := by decide +kernel
theorem dc_Coder_answerAll_12 : decode M_Coder_answerAll.2.1 12 = .ok (.iload_n 3, 1) := by decide +kernel
theorem dc_Coder_answerAll_13 : decode M_Coder_answerAll.2.1 13 = .ok (.invokevirtual 65, 3) := by decide +kernel
theorem km_2_65 : rM 2 65 = some (1, M_Coder_answer) := rM_at (j := 72) (p := 748) (by decide +kernel) rfl
theorem np_Coder_answer : nP M_Coder_answer = 2 := by decide +kernel
theorem dc_Coder_answerAll_16 : decode M_Coder_answerAll.2.1 16 = .ok (.iastore, 1) := by decide +kernel
theorem dc_Coder_answerAll_17 : decode M_Coder_answerAll.2.1 17 = .ok (.iinc 3 1, 3) := by decide +kernel
theorem dc_Coder_answerAll_20 : decode M_Coder_answerAll.2.1 20 = .ok (.goto (-18), 3) := by decide +kernel
theorem dc_Coder_answer_0 : decode M_Coder_answer.2.1 0 = .ok (.iconst 1, 1) := by decide +kernel
theorem dc_Coder_answer_1 : decode M_Coder_answer.2.1 1 = .ok (.iload_n 2, 1) := by decide +kernel
theorem dc_Coder_answer_2 : decode M_Coder_answer.2.1 2 = .ok (.aload_n 0, 1) := by decide +kernel
theorem dc_Coder_answer_3 : decode M_Coder_answer.2.1 3 = .ok (.getfield 41, 3) := by decide +kernel
theorem dc_Coder_answer_6 : decode M_Coder_answer.2.1 6 = .ok (.iconst 1, 1) := by decide +kernel
theorem dc_Coder_answer_7 : decode M_Coder_answer.2.1 7 = .ok (.isub, 1) := by decide +kernel
theorem dc_Coder_answer_8 : decode M_Coder_answer.2.1 8 = .ok (.irem, 1) := by decide +kernel
theorem dc_Coder_answer_9 : decode M_Coder_answer.2.1 9 = .ok (.iadd, 1) := by decide +kernel
theorem dc_Coder_answer_10 : decode M_Coder_answer.2.1 10 = .ok (.istore_n 3, 1) := by decide +kernel
theorem dc_Coder_answer_11 : decode M_Coder_answer.2.1 11 = .ok (.iconst 0, 1) := by decide +kernel
theorem dc_Coder_answer_12 : decode M_Coder_answer.2.1 12 = .ok (.istore 4, 2) := by decide +kernel
theorem dc_Coder_answer_14 : decode M_Coder_answer.2.1 14 = .ok (.iconst 0, 1) := by decide +kernel
theorem dc_Coder_answer_15 : decode M_Coder_answer.2.1 15 = .ok (.istore 5, 2) := by decide +kernel
theorem dc_Coder_answer_17 : decode M_Coder_answer.2.1 17 = .ok (.iload 5, 2) := by decide +kernel
theorem dc_Coder_answer_19 : decode M_Coder_answer.2.1 19 = .ok (.aload_n 0, 1) := by decide +kernel
theorem dc_Coder_answer_20 : decode M_Coder_answer.2.1 20 = .ok (.getfield 41, 3) := by decide +kernel
theorem dc_Coder_answer_23 : decode M_Coder_answer.2.1 23 = .ok (.iconst 2, 1) := by decide +kernel
theorem dc_Coder_answer_24 : decode M_Coder_answer.2.1 24 = .ok (.idiv, 1) := by decide +kernel
theorem dc_Coder_answer_25 : decode M_Coder_answer.2.1 25 = .ok (.if_icmp .ge 35, 3) := by decide +kernel
theorem dc_Coder_answer_60 : decode M_Coder_answer.2.1 60 = .ok (.iload 4, 2) := by decide +kernel
theorem dc_Coder_answer_62 : decode M_Coder_answer.2.1 62 = .ok (.ldc 69, 2) := by decide +kernel
theorem ki_2_69 : rI 2 69 = some 65521 := by decide +kernel
theorem dc_Coder_answer_64 : decode M_Coder_answer.2.1 64 = .ok (.irem, 1) := by decide +kernel
theorem dc_Coder_answer_65 : decode M_Coder_answer.2.1 65 = .ok (.ireturn, 1) := by decide +kernel
theorem dc_Coder_answer_28 : decode M_Coder_answer.2.1 28 = .ok (.iload 4, 2) := by decide +kernel
theorem dc_Coder_answer_30 : decode M_Coder_answer.2.1 30 = .ok (.iload 5, 2) := by decide +kernel
theorem dc_Coder_answer_32 : decode M_Coder_answer.2.1 32 = .ok (.iconst 1, 1) := by decide +kernel
theorem dc_Coder_answer_33 : decode M_Coder_answer.2.1 33 = .ok (.iadd, 1) := by decide +kernel
theorem dc_Coder_answer_34 : decode M_Coder_answer.2.1 34 = .ok (.aload_n 1, 1) := by decide +kernel
theorem dc_Coder_answer_35 : decode M_Coder_answer.2.1 35 = .ok (.bipush 7, 2) := by decide +kernel
theorem dc_Coder_answer_37 : decode M_Coder_answer.2.1 37 = .ok (.iload_n 2, 1) := by decide +kernel
theorem dc_Coder_answer_38 : decode M_Coder_answer.2.1 38 = .ok (.imul, 1) := by decide +kernel
theorem dc_Coder_answer_39 : decode M_Coder_answer.2.1 39 = .ok (.iload 5, 2) := by decide +kernel
theorem dc_Coder_answer_41 : decode M_Coder_answer.2.1 41 = .ok (.iload_n 3, 1) := by decide +kernel
theorem dc_Coder_answer_42 : decode M_Coder_answer.2.1 42 = .ok (.imul, 1) := by decide +kernel
theorem dc_Coder_answer_43 : decode M_Coder_answer.2.1 43 = .ok (.iadd, 1) := by decide +kernel
theorem dc_Coder_answer_44 : decode M_Coder_answer.2.1 44 = .ok (.aload_n 0, 1) := by decide +kernel
theorem dc_Coder_answer_45 : decode M_Coder_answer.2.1 45 = .ok (.getfield 41, 3) := by decide +kernel
theorem dc_Coder_answer_48 : decode M_Coder_answer.2.1 48 = .ok (.irem, 1) := by decide +kernel
theorem dc_Coder_answer_49 : decode M_Coder_answer.2.1 49 = .ok (.iaload, 1) := by decide +kernel
theorem dc_Coder_answer_50 : decode M_Coder_answer.2.1 50 = .ok (.imul, 1) := by decide +kernel
theorem dc_Coder_answer_51 : decode M_Coder_answer.2.1 51 = .ok (.iadd, 1) := by decide +kernel
theorem dc_Coder_answer_52 : decode M_Coder_answer.2.1 52 = .ok (.istore 4, 2) := by decide +kernel
theorem dc_Coder_answer_54 : decode M_Coder_answer.2.1 54 = .ok (.iinc 5 1, 3) := by decide +kernel
theorem dc_Coder_answer_57 : decode M_Coder_answer.2.1 57 = .ok (.goto (-40), 3) := by decide +kernel
theorem dc_La_up_0 : decode M_La_up.2.1 0 = .ok (.aload_n 3, 1) := by decide +kernel
theorem dc_La_up_1 : decode M_La_up.2.1 1 = .ok (.iconst 0, 1) := by decide +kernel
theorem dc_La_up_2 : decode M_La_up.2.1 2 = .ok (.aload_n 0, 1) := by decide +kernel
theorem dc_La_up_3 : decode M_La_up.2.1 3 = .ok (.iload_n 1, 1) := by decide +kernel
theorem dc_La_up_4 : decode M_La_up.2.1 4 = .ok (.iload_n 2, 1) := by decide +kernel
theorem dc_La_up_5 : decode M_La_up.2.1 5 = .ok (.invokevirtual 39, 3) := by decide +kernel
theorem km_11_39 : rM 11 39 = some (1, M_FB_up) := rM_at (j := 74) (p := 756) (by decide +kernel) rfl
theorem np_FB_up : nP M_FB_up = 2 := by decide +kernel
theorem dc_La_up_8 : decode M_La_up.2.1 8 = .ok (.ifCond .eq 7, 3) := by decide +kernel
theorem dc_La_up_15 : decode M_La_up.2.1 15 = .ok (.lconst 0, 1) := by decide +kernel
theorem dc_La_up_11 : decode M_La_up.2.1 11 = .ok (.lconst 1, 1) := by decide +kernel
theorem dc_La_up_12 : decode M_La_up.2.1 12 = .ok (.goto 4, 3) := by decide +kernel
theorem dc_La_up_16 : decode M_La_up.2.1 16 = .ok (.lastore, 1) := by decide +kernel
theorem dc_La_up_17 : decode M_La_up.2.1 17 = .ok (.goto 7, 3) := by decide +kernel
theorem dc_La_up_24 : decode M_La_up.2.1 24 = .ok (.iconst 0, 1) := by decide +kernel
theorem dc_La_up_25 : decode M_La_up.2.1 25 = .ok (.ireturn, 1) := by decide +kernel
theorem dc_La_up_20 : decode M_La_up.2.1 20 = .ok (.astore 4, 2) := by decide +kernel
theorem dc_La_up_22 : decode M_La_up.2.1 22 = .ok (.iconst 1, 1) := by decide +kernel
theorem dc_La_up_23 : decode M_La_up.2.1 23 = .ok (.ireturn, 1) := by decide +kernel
theorem dc_FB_up_0 : decode M_FB_up.2.1 0 = .ok (.aload_n 0, 1) := by decide +kernel
theorem dc_FB_up_1 : decode M_FB_up.2.1 1 = .ok (.iload_n 1, 1) := by decide +kernel
theorem dc_FB_up_2 : decode M_FB_up.2.1 2 = .ok (.invokevirtual 60, 3) := by decide +kernel
theorem dc_FB_up_5 : decode M_FB_up.2.1 5 = .ok (.astore_n 3, 1) := by decide +kernel
theorem dc_FB_up_6 : decode M_FB_up.2.1 6 = .ok (.aload_n 3, 1) := by decide +kernel
theorem dc_FB_up_7 : decode M_FB_up.2.1 7 = .ok (.getfield 138, 3) := by decide +kernel
theorem dc_FB_up_10 : decode M_FB_up.2.1 10 = .ok (.istore 4, 2) := by decide +kernel
theorem dc_FB_up_12 : decode M_FB_up.2.1 12 = .ok (.aload_n 3, 1) := by decide +kernel
theorem dc_FB_up_13 : decode M_FB_up.2.1 13 = .ok (.iload_n 2, 1) := by decide +kernel
theorem dc_FB_up_14 : decode M_FB_up.2.1 14 = .ok (.putfield 138, 3) := by decide +kernel
theorem kp_FB_up_5_11 : fpB M_FB_up 5 11 = true := by decide +kernel
theorem dc_FB_up_17 : decode M_FB_up.2.1 17 = .ok (.iload 4, 2) := by decide +kernel
theorem dc_FB_up_19 : decode M_FB_up.2.1 19 = .ok (.ireturn, 1) := by decide +kernel
theorem dc_La_loseDisk_0 : decode M_La_loseDisk.2.1 0 = .ok (.aload_n 0, 1) := by decide +kernel
theorem dc_La_loseDisk_1 : decode M_La_loseDisk.2.1 1 = .ok (.iload_n 1, 1) := by decide +kernel
theorem dc_La_loseDisk_2 : decode M_La_loseDisk.2.1 2 = .ok (.invokevirtual 43, 3) := by decide +kernel
theorem km_11_43 : rM 11 43 = some (1, M_FB_loseDisk) := rM_at (j := 76) (p := 763) (by decide +kernel) rfl
theorem np_FB_loseDisk : nP M_FB_loseDisk = 1 := by decide +kernel
theorem dc_La_loseDisk_5 : decode M_La_loseDisk.2.1 5 = .ok (.goto 6, 3) := by decide +kernel
theorem dc_La_loseDisk_11 : decode M_La_loseDisk.2.1 11 = .ok (.iconst 0, 1) := by decide +kernel
theorem dc_La_loseDisk_12 : decode M_La_loseDisk.2.1 12 = .ok (.ireturn, 1) := by decide +kernel
theorem dc_La_loseDisk_8 : decode M_La_loseDisk.2.1 8 = .ok (.astore_n 2, 1) := by decide +kernel
theorem dc_La_loseDisk_9 : decode M_La_loseDisk.2.1 9 = .ok (.iconst 1, 1) := by decide +kernel
theorem dc_La_loseDisk_10 : decode M_La_loseDisk.2.1 10 = .ok (.ireturn, 1) := by decide +kernel
theorem dc_FB_loseDisk_0 : decode M_FB_loseDisk.2.1 0 = .ok (.aload_n 0, 1) := by decide +kernel
theorem dc_FB_loseDisk_1 : decode M_FB_loseDisk.2.1 1 = .ok (.iload_n 1, 1) := by decide +kernel
theorem dc_FB_loseDisk_2 : decode M_FB_loseDisk.2.1 2 = .ok (.invokevirtual 60, 3) := by decide +kernel
theorem dc_FB_loseDisk_5 : decode M_FB_loseDisk.2.1 5 = .ok (.astore_n 2, 1) := by decide +kernel
theorem dc_FB_loseDisk_6 : decode M_FB_loseDisk.2.1 6 = .ok (.iconst 0, 1) := by decide +kernel
theorem dc_FB_loseDisk_7 : decode M_FB_loseDisk.2.1 7 = .ok (.istore_n 3, 1) := by decide +kernel
theorem dc_FB_loseDisk_8 : decode M_FB_loseDisk.2.1 8 = .ok (.iload_n 3, 1) := by decide +kernel
theorem dc_FB_loseDisk_9 : decode M_FB_loseDisk.2.1 9 = .ok (.bipush 10, 2) := by decide +kernel
theorem dc_FB_loseDisk_11 : decode M_FB_loseDisk.2.1 11 = .ok (.if_icmp .ge 35, 3) := by decide +kernel
theorem dc_FB_loseDisk_46 : decode M_FB_loseDisk.2.1 46 = .ok (.aload_n 2, 1) := by decide +kernel
theorem dc_FB_loseDisk_47 : decode M_FB_loseDisk.2.1 47 = .ok (.invokevirtual 163, 3) := by decide +kernel
theorem km_0_163 : rM 0 163 = some (1, M_House_loseOwn) := rM_at (j := 78) (p := 772) (by decide +kernel) rfl
theorem np_House_loseOwn : nP M_House_loseOwn = 0 := by decide +kernel
theorem dc_FB_loseDisk_14 : decode M_FB_loseDisk.2.1 14 = .ok (.aload_n 0, 1) := by decide +kernel
theorem dc_FB_loseDisk_15 : decode M_FB_loseDisk.2.1 15 = .ok (.getfield 11, 3) := by decide +kernel
theorem dc_FB_loseDisk_18 : decode M_FB_loseDisk.2.1 18 = .ok (.iload_n 3, 1) := by decide +kernel
theorem dc_FB_loseDisk_19 : decode M_FB_loseDisk.2.1 19 = .ok (.aaload, 1) := by decide +kernel
theorem dc_FB_loseDisk_20 : decode M_FB_loseDisk.2.1 20 = .ok (.ifnull 13, 3) := by decide +kernel
theorem dc_FB_loseDisk_23 : decode M_FB_loseDisk.2.1 23 = .ok (.aload_n 0, 1) := by decide +kernel
theorem dc_FB_loseDisk_24 : decode M_FB_loseDisk.2.1 24 = .ok (.getfield 11, 3) := by decide +kernel
theorem dc_FB_loseDisk_27 : decode M_FB_loseDisk.2.1 27 = .ok (.iload_n 3, 1) := by decide +kernel
theorem dc_FB_loseDisk_28 : decode M_FB_loseDisk.2.1 28 = .ok (.aaload, 1) := by decide +kernel
theorem dc_FB_loseDisk_29 : decode M_FB_loseDisk.2.1 29 = .ok (.iload_n 1, 1) := by decide +kernel
theorem dc_FB_loseDisk_30 : decode M_FB_loseDisk.2.1 30 = .ok (.invokevirtual 157, 3) := by decide +kernel
theorem km_0_157 : rM 0 157 = some (1, M_House_losePiecesWith) := rM_at (j := 77) (p := 767) (by decide +kernel) rfl
theorem np_House_losePiecesWith : nP M_House_losePiecesWith = 1 := by decide +kernel
theorem dc_FB_loseDisk_33 : decode M_FB_loseDisk.2.1 33 = .ok (.aload_n 2, 1) := by decide +kernel
theorem dc_FB_loseDisk_34 : decode M_FB_loseDisk.2.1 34 = .ok (.getfield 160, 3) := by decide +kernel
theorem dc_FB_loseDisk_37 : decode M_FB_loseDisk.2.1 37 = .ok (.iload_n 3, 1) := by decide +kernel
theorem dc_FB_loseDisk_38 : decode M_FB_loseDisk.2.1 38 = .ok (.iconst 0, 1) := by decide +kernel
theorem dc_FB_loseDisk_39 : decode M_FB_loseDisk.2.1 39 = .ok (.iastore, 1) := by decide +kernel
theorem dc_FB_loseDisk_40 : decode M_FB_loseDisk.2.1 40 = .ok (.iinc 3 1, 3) := by decide +kernel
theorem dc_FB_loseDisk_43 : decode M_FB_loseDisk.2.1 43 = .ok (.goto (-35), 3) := by decide +kernel
theorem dc_FB_loseDisk_50 : decode M_FB_loseDisk.2.1 50 = .ok (.return_, 1) := by decide +kernel
theorem dc_House_losePiecesWith_0 : decode M_House_losePiecesWith.2.1 0 = .ok (.iconst 0, 1) := by decide +kernel
theorem dc_House_losePiecesWith_1 : decode M_House_losePiecesWith.2.1 1 = .ok (.istore_n 2, 1) := by decide +kernel
theorem dc_House_losePiecesWith_2 : decode M_House_losePiecesWith.2.1 2 = .ok (.iload_n 2, 1) := by decide +kernel
theorem dc_House_losePiecesWith_3 : decode M_House_losePiecesWith.2.1 3 = .ok (.aload_n 0, 1) := by decide +kernel
theorem dc_House_losePiecesWith_4 : decode M_House_losePiecesWith.2.1 4 = .ok (.getfield 36, 3) := by decide +kernel
theorem dc_House_losePiecesWith_7 : decode M_House_losePiecesWith.2.1 7 = .ok (.invokevirtual 56, 3) := by decide +kernel
theorem dc_House_losePiecesWith_10 : decode M_House_losePiecesWith.2.1 10 = .ok (.if_icmp .ge 45, 3) := by decide +kernel
theorem dc_House_losePiecesWith_55 : decode M_House_losePiecesWith.2.1 55 = .ok (.return_, 1) := by decide +kernel
theorem dc_House_losePiecesWith_13 : decode M_House_losePiecesWith.2.1 13 = .ok (.aload_n 0, 1) := by decide +kernel
theorem dc_House_losePiecesWith_14 : decode M_House_losePiecesWith.2.1 14 = .ok (.getfield 36, 3) := by decide +kernel
theorem dc_House_losePiecesWith_17 : decode M_House_losePiecesWith.2.1 17 = .ok (.iload_n 2, 1) := by decide +kernel
theorem dc_House_losePiecesWith_18 : decode M_House_losePiecesWith.2.1 18 = .ok (.invokevirtual 60, 3) := by decide +kernel
theorem dc_House_losePiecesWith_21 : decode M_House_losePiecesWith.2.1 21 = .ok (.checkcast 64, 3) := by decide +kernel
theorem dc_House_losePiecesWith_24 : decode M_House_losePiecesWith.2.1 24 = .ok (.astore_n 3, 1) := by decide +kernel
theorem dc_House_losePiecesWith_25 : decode M_House_losePiecesWith.2.1 25 = .ok (.aload_n 3, 1) := by decide +kernel
theorem dc_House_losePiecesWith_26 : decode M_House_losePiecesWith.2.1 26 = .ok (.iload_n 1, 1) := by decide +kernel
theorem dc_House_losePiecesWith_27 : decode M_House_losePiecesWith.2.1 27 = .ok (.invokevirtual 110, 3) := by decide +kernel
theorem km_5_110 : rM 5 110 = some (1, M_Segment_pieceWith) := rM_at (j := 67) (p := 771) (by decide +kernel) rfl
theorem dc_House_losePiecesWith_30 : decode M_House_losePiecesWith.2.1 30 = .ok (.istore 4, 2) := by decide +kernel
theorem dc_House_losePiecesWith_32 : decode M_House_losePiecesWith.2.1 32 = .ok (.iload 4, 2) := by decide +kernel
theorem dc_House_losePiecesWith_34 : decode M_House_losePiecesWith.2.1 34 = .ok (.iconst (-1), 1) := by decide +kernel
theorem dc_House_losePiecesWith_35 : decode M_House_losePiecesWith.2.1 35 = .ok (.if_icmp .eq 14, 3) := by decide +kernel
theorem dc_House_losePiecesWith_38 : decode M_House_losePiecesWith.2.1 38 = .ok (.aload_n 3, 1) := by decide +kernel
theorem dc_House_losePiecesWith_39 : decode M_House_losePiecesWith.2.1 39 = .ok (.getfield 114, 3) := by decide +kernel
theorem kf_5_114 : rF 5 114 = some (7, 2) := by decide +kernel
theorem dc_House_losePiecesWith_42 : decode M_House_losePiecesWith.2.1 42 = .ok (.iload 4, 2) := by decide +kernel
theorem dc_House_losePiecesWith_44 : decode M_House_losePiecesWith.2.1 44 = .ok (.aaload, 1) := by decide +kernel
theorem dc_House_losePiecesWith_45 : decode M_House_losePiecesWith.2.1 45 = .ok (.iconst 0, 1) := by decide +kernel
theorem dc_House_losePiecesWith_46 : decode M_House_losePiecesWith.2.1 46 = .ok (.putfield 118, 3) := by decide +kernel
theorem kf_5_118 : rF 5 118 = some (6, 3) := by decide +kernel
theorem kp_House_losePiecesWith_6_3 : fpB M_House_losePiecesWith 6 3 = true := by decide +kernel
theorem dc_House_losePiecesWith_49 : decode M_House_losePiecesWith.2.1 49 = .ok (.iinc 2 1, 3) := by decide +kernel
theorem dc_House_losePiecesWith_52 : decode M_House_losePiecesWith.2.1 52 = .ok (.goto (-50), 3) := by decide +kernel
theorem dc_House_loseOwn_0 : decode M_House_loseOwn.2.1 0 = .ok (.iconst 0, 1) := by decide +kernel
theorem dc_House_loseOwn_1 : decode M_House_loseOwn.2.1 1 = .ok (.istore_n 1, 1) := by decide +kernel
theorem dc_House_loseOwn_2 : decode M_House_loseOwn.2.1 2 = .ok (.iload_n 1, 1) := by decide +kernel
theorem dc_House_loseOwn_3 : decode M_House_loseOwn.2.1 3 = .ok (.bipush 10, 2) := by decide +kernel
theorem dc_House_loseOwn_5 : decode M_House_loseOwn.2.1 5 = .ok (.if_icmp .ge 16, 3) := by decide +kernel
theorem dc_House_loseOwn_21 : decode M_House_loseOwn.2.1 21 = .ok (.iconst 0, 1) := by decide +kernel
theorem dc_House_loseOwn_22 : decode M_House_loseOwn.2.1 22 = .ok (.istore_n 1, 1) := by decide +kernel
theorem dc_House_loseOwn_8 : decode M_House_loseOwn.2.1 8 = .ok (.aload_n 0, 1) := by decide +kernel
theorem dc_House_loseOwn_9 : decode M_House_loseOwn.2.1 9 = .ok (.getfield 26, 3) := by decide +kernel
theorem dc_House_loseOwn_12 : decode M_House_loseOwn.2.1 12 = .ok (.iload_n 1, 1) := by decide +kernel
theorem dc_House_loseOwn_13 : decode M_House_loseOwn.2.1 13 = .ok (.iconst (-1), 1) := by decide +kernel
theorem dc_House_loseOwn_14 : decode M_House_loseOwn.2.1 14 = .ok (.iastore, 1) := by decide +kernel
theorem dc_House_loseOwn_15 : decode M_House_loseOwn.2.1 15 = .ok (.iinc 1 1, 3) := by decide +kernel
theorem dc_House_loseOwn_18 : decode M_House_loseOwn.2.1 18 = .ok (.goto (-16), 3) := by decide +kernel
theorem dc_House_loseOwn_23 : decode M_House_loseOwn.2.1 23 = .ok (.iload_n 1, 1) := by decide +kernel
theorem dc_House_loseOwn_24 : decode M_House_loseOwn.2.1 24 = .ok (.aload_n 0, 1) := by decide +kernel
theorem dc_House_loseOwn_25 : decode M_House_loseOwn.2.1 25 = .ok (.getfield 36, 3) := by decide +kernel
theorem dc_House_loseOwn_28 : decode M_House_loseOwn.2.1 28 = .ok (.invokevirtual 56, 3) := by decide +kernel
theorem dc_House_loseOwn_31 : decode M_House_loseOwn.2.1 31 = .ok (.if_icmp .ge 24, 3) := by decide +kernel
theorem dc_House_loseOwn_55 : decode M_House_loseOwn.2.1 55 = .ok (.aload_n 0, 1) := by decide +kernel
theorem dc_House_loseOwn_56 : decode M_House_loseOwn.2.1 56 = .ok (.iconst 1, 1) := by decide +kernel
theorem dc_House_loseOwn_57 : decode M_House_loseOwn.2.1 57 = .ok (.putfield 53, 3) := by decide +kernel
theorem kp_House_loseOwn_5_12 : fpB M_House_loseOwn 5 12 = true := by decide +kernel
theorem dc_House_loseOwn_60 : decode M_House_loseOwn.2.1 60 = .ok (.return_, 1) := by decide +kernel
theorem kiZ_5_12 {z : Int} : fitB 5 12 (vI z) = true ↔ (z = 0 ∨ z = 1) := fi_Z (by decide +kernel)
theorem dc_House_loseOwn_34 : decode M_House_loseOwn.2.1 34 = .ok (.aload_n 0, 1) := by decide +kernel
theorem dc_House_loseOwn_35 : decode M_House_loseOwn.2.1 35 = .ok (.getfield 36, 3) := by decide +kernel
theorem dc_House_loseOwn_38 : decode M_House_loseOwn.2.1 38 = .ok (.iload_n 1, 1) := by decide +kernel
theorem dc_House_loseOwn_39 : decode M_House_loseOwn.2.1 39 = .ok (.invokevirtual 60, 3) := by decide +kernel
theorem dc_House_loseOwn_42 : decode M_House_loseOwn.2.1 42 = .ok (.checkcast 64, 3) := by decide +kernel
theorem dc_House_loseOwn_45 : decode M_House_loseOwn.2.1 45 = .ok (.iconst 0, 1) := by decide +kernel
theorem dc_House_loseOwn_46 : decode M_House_loseOwn.2.1 46 = .ok (.putfield 69, 3) := by decide +kernel
theorem kf_5_69 : rF 5 69 = some (7, 3) := by decide +kernel
theorem kp_House_loseOwn_7_3 : fpB M_House_loseOwn 7 3 = true := by decide +kernel
theorem dc_House_loseOwn_49 : decode M_House_loseOwn.2.1 49 = .ok (.iinc 1 1, 3) := by decide +kernel
theorem dc_House_loseOwn_52 : decode M_House_loseOwn.2.1 52 = .ok (.goto (-29), 3) := by decide +kernel
theorem dc_La_harm_0 : decode M_La_harm.2.1 0 = .ok (.aload 6, 2) := by decide +kernel
theorem dc_La_harm_2 : decode M_La_harm.2.1 2 = .ok (.iconst 0, 1) := by decide +kernel
theorem dc_La_harm_3 : decode M_La_harm.2.1 3 = .ok (.aload_n 0, 1) := by decide +kernel
theorem dc_La_harm_4 : decode M_La_harm.2.1 4 = .ok (.iload_n 1, 1) := by decide +kernel
theorem dc_La_harm_5 : decode M_La_harm.2.1 5 = .ok (.iload_n 2, 1) := by decide +kernel
theorem dc_La_harm_6 : decode M_La_harm.2.1 6 = .ok (.iload_n 3, 1) := by decide +kernel
theorem dc_La_harm_7 : decode M_La_harm.2.1 7 = .ok (.iload 4, 2) := by decide +kernel
theorem dc_La_harm_9 : decode M_La_harm.2.1 9 = .ok (.iload 5, 2) := by decide +kernel
theorem dc_La_harm_11 : decode M_La_harm.2.1 11 = .ok (.invokevirtual 47, 3) := by decide +kernel
theorem km_11_47 : rM 11 47 = some (1, M_FB_harm) := rM_at (j := 80) (p := 779) (by decide +kernel) rfl
theorem np_FB_harm : nP M_FB_harm = 5 := by decide +kernel
theorem dc_La_harm_14 : decode M_La_harm.2.1 14 = .ok (.ifCond .eq 7, 3) := by decide +kernel
theorem dc_La_harm_21 : decode M_La_harm.2.1 21 = .ok (.lconst 0, 1) := by decide +kernel
theorem dc_La_harm_17 : decode M_La_harm.2.1 17 = .ok (.lconst 1, 1) := by decide +kernel
theorem dc_La_harm_18 : decode M_La_harm.2.1 18 = .ok (.goto 4, 3) := by decide +kernel
theorem dc_La_harm_22 : decode M_La_harm.2.1 22 = .ok (.lastore, 1) := by decide +kernel
theorem dc_La_harm_23 : decode M_La_harm.2.1 23 = .ok (.goto 7, 3) := by decide +kernel
theorem dc_La_harm_30 : decode M_La_harm.2.1 30 = .ok (.iconst 0, 1) := by decide +kernel
theorem dc_La_harm_31 : decode M_La_harm.2.1 31 = .ok (.ireturn, 1) := by decide +kernel
theorem dc_La_harm_26 : decode M_La_harm.2.1 26 = .ok (.astore 7, 2) := by decide +kernel
theorem dc_La_harm_28 : decode M_La_harm.2.1 28 = .ok (.iconst 1, 1) := by decide +kernel
theorem dc_La_harm_29 : decode M_La_harm.2.1 29 = .ok (.ireturn, 1) := by decide +kernel
theorem dc_FB_harm_0 : decode M_FB_harm.2.1 0 = .ok (.aload_n 0, 1) := by decide +kernel
theorem dc_FB_harm_1 : decode M_FB_harm.2.1 1 = .ok (.iload_n 1, 1) := by decide +kernel
theorem dc_FB_harm_2 : decode M_FB_harm.2.1 2 = .ok (.invokevirtual 60, 3) := by decide +kernel
theorem dc_FB_harm_5 : decode M_FB_harm.2.1 5 = .ok (.astore 6, 2) := by decide +kernel
theorem dc_FB_harm_7 : decode M_FB_harm.2.1 7 = .ok (.aload_n 0, 1) := by decide +kernel
theorem dc_FB_harm_8 : decode M_FB_harm.2.1 8 = .ok (.iload_n 2, 1) := by decide +kernel
theorem dc_FB_harm_9 : decode M_FB_harm.2.1 9 = .ok (.invokevirtual 60, 3) := by decide +kernel
theorem dc_FB_harm_12 : decode M_FB_harm.2.1 12 = .ok (.iload_n 3, 1) := by decide +kernel
theorem dc_FB_harm_13 : decode M_FB_harm.2.1 13 = .ok (.invokestatic 166, 3) := by decide +kernel
theorem km_0_166 : rM 0 166 = some (0, M_FB_segmentOf) := rM_at (j := 81) (p := 783) (by decide +kernel) rfl
theorem np_FB_segmentOf : nP M_FB_segmentOf = 2 := by decide +kernel
theorem dc_FB_harm_16 : decode M_FB_harm.2.1 16 = .ok (.astore 7, 2) := by decide +kernel
theorem dc_FB_harm_18 : decode M_FB_harm.2.1 18 = .ok (.iload 4, 2) := by decide +kernel
theorem dc_FB_harm_20 : decode M_FB_harm.2.1 20 = .ok (.iconst 0, 1) := by decide +kernel
theorem dc_FB_harm_21 : decode M_FB_harm.2.1 21 = .ok (.aload_n 0, 1) := by decide +kernel
theorem dc_FB_harm_22 : decode M_FB_harm.2.1 22 = .ok (.getfield 18, 3) := by decide +kernel
theorem dc_FB_harm_25 : decode M_FB_harm.2.1 25 = .ok (.getfield 170, 3) := by decide +kernel
theorem kf_0_170 : rF 0 170 = some (2, 5) := by decide +kernel
theorem dc_FB_harm_28 : decode M_FB_harm.2.1 28 = .ok (.iconst 1, 1) := by decide +kernel
theorem dc_FB_harm_29 : decode M_FB_harm.2.1 29 = .ok (.isub, 1) := by decide +kernel
theorem dc_FB_harm_30 : decode M_FB_harm.2.1 30 = .ok (.invokestatic 39, 3) := by decide +kernel
theorem dc_FB_harm_33 : decode M_FB_harm.2.1 33 = .ok (.ifCond .eq 19, 3) := by decide +kernel
theorem dc_FB_harm_36 : decode M_FB_harm.2.1 36 = .ok (.iload 5, 2) := by decide +kernel
theorem dc_FB_harm_38 : decode M_FB_harm.2.1 38 = .ok (.iconst 0, 1) := by decide +kernel
theorem dc_FB_harm_39 : decode M_FB_harm.2.1 39 = .ok (.sipush 255, 3) := by decide +kernel
theorem dc_FB_harm_42 : decode M_FB_harm.2.1 42 = .ok (.invokestatic 39, 3) := by decide +kernel
theorem dc_FB_harm_45 : decode M_FB_harm.2.1 45 = .ok (.ifCond .eq 7, 3) := by decide +kernel
theorem dc_FB_harm_48 : decode M_FB_harm.2.1 48 = .ok (.iconst 1, 1) := by decide +kernel
theorem dc_FB_harm_49 : decode M_FB_harm.2.1 49 = .ok (.goto 4, 3) := by decide +kernel
theorem dc_FB_harm_52 : decode M_FB_harm.2.1 52 = .ok (.iconst 0, 1) := by decide +kernel
theorem dc_FB_harm_53 : decode M_FB_harm.2.1 53 = .ok (.invokestatic 43, 3) := by decide +kernel
theorem dc_FB_harm_56 : decode M_FB_harm.2.1 56 = .ok (.aload 7, 2) := by decide +kernel
theorem dc_FB_harm_58 : decode M_FB_harm.2.1 58 = .ok (.iload_n 1, 1) := by decide +kernel
theorem dc_FB_harm_59 : decode M_FB_harm.2.1 59 = .ok (.invokevirtual 173, 3) := by decide +kernel
theorem dc_FB_harm_62 : decode M_FB_harm.2.1 62 = .ok (.istore 8, 2) := by decide +kernel
theorem dc_FB_harm_64 : decode M_FB_harm.2.1 64 = .ok (.iload 8, 2) := by decide +kernel
theorem dc_FB_harm_66 : decode M_FB_harm.2.1 66 = .ok (.iconst (-1), 1) := by decide +kernel
theorem dc_FB_harm_67 : decode M_FB_harm.2.1 67 = .ok (.if_icmp .eq 17, 3) := by decide +kernel
theorem dc_FB_harm_70 : decode M_FB_harm.2.1 70 = .ok (.aload 7, 2) := by decide +kernel
theorem dc_FB_harm_72 : decode M_FB_harm.2.1 72 = .ok (.getfield 177, 3) := by decide +kernel
theorem dc_FB_harm_75 : decode M_FB_harm.2.1 75 = .ok (.iload 8, 2) := by decide +kernel
theorem dc_FB_harm_77 : decode M_FB_harm.2.1 77 = .ok (.aaload, 1) := by decide +kernel
theorem dc_FB_harm_78 : decode M_FB_harm.2.1 78 = .ok (.getfield 181, 3) := by decide +kernel
theorem dc_FB_harm_81 : decode M_FB_harm.2.1 81 = .ok (.ifCond .ne 5, 3) := by decide +kernel
theorem dc_FB_harm_86 : decode M_FB_harm.2.1 86 = .ok (.aload 7, 2) := by decide +kernel
theorem dc_FB_harm_88 : decode M_FB_harm.2.1 88 = .ok (.getfield 177, 3) := by decide +kernel
theorem dc_FB_harm_91 : decode M_FB_harm.2.1 91 = .ok (.iload 8, 2) := by decide +kernel
theorem dc_FB_harm_93 : decode M_FB_harm.2.1 93 = .ok (.aaload, 1) := by decide +kernel
theorem dc_FB_harm_94 : decode M_FB_harm.2.1 94 = .ok (.astore 9, 2) := by decide +kernel
theorem dc_FB_harm_96 : decode M_FB_harm.2.1 96 = .ok (.iload 5, 2) := by decide +kernel
theorem dc_FB_harm_98 : decode M_FB_harm.2.1 98 = .ok (.ifCond .ne 23, 3) := by decide +kernel
theorem dc_FB_harm_121 : decode M_FB_harm.2.1 121 = .ok (.aload 9, 2) := by decide +kernel
theorem dc_FB_harm_123 : decode M_FB_harm.2.1 123 = .ok (.getfield 186, 3) := by decide +kernel
theorem dc_FB_harm_126 : decode M_FB_harm.2.1 126 = .ok (.iload 4, 2) := by decide +kernel
theorem dc_FB_harm_128 : decode M_FB_harm.2.1 128 = .ok (.dup2, 1) := by decide +kernel
theorem dc_FB_harm_129 : decode M_FB_harm.2.1 129 = .ok (.iaload, 1) := by decide +kernel
theorem dc_FB_harm_130 : decode M_FB_harm.2.1 130 = .ok (.iload 5, 2) := by decide +kernel
theorem dc_FB_harm_132 : decode M_FB_harm.2.1 132 = .ok (.ixor, 1) := by decide +kernel
theorem dc_FB_harm_133 : decode M_FB_harm.2.1 133 = .ok (.iastore, 1) := by decide +kernel
theorem dc_FB_harm_101 : decode M_FB_harm.2.1 101 = .ok (.aload 9, 2) := by decide +kernel
theorem dc_FB_harm_103 : decode M_FB_harm.2.1 103 = .ok (.iconst 0, 1) := by decide +kernel
theorem dc_FB_harm_104 : decode M_FB_harm.2.1 104 = .ok (.putfield 181, 3) := by decide +kernel
theorem kp_FB_harm_6_3 : fpB M_FB_harm 6 3 = true := by decide +kernel
theorem dc_FB_harm_107 : decode M_FB_harm.2.1 107 = .ok (.aload 6, 2) := by decide +kernel
theorem dc_FB_harm_109 : decode M_FB_harm.2.1 109 = .ok (.getfield 160, 3) := by decide +kernel
theorem dc_FB_harm_112 : decode M_FB_harm.2.1 112 = .ok (.iload_n 2, 1) := by decide +kernel
theorem dc_FB_harm_113 : decode M_FB_harm.2.1 113 = .ok (.dup2, 1) := by decide +kernel
theorem dc_FB_harm_114 : decode M_FB_harm.2.1 114 = .ok (.iaload, 1) := by decide +kernel
theorem dc_FB_harm_115 : decode M_FB_harm.2.1 115 = .ok (.iconst 1, 1) := by decide +kernel
theorem dc_FB_harm_116 : decode M_FB_harm.2.1 116 = .ok (.isub, 1) := by decide +kernel
theorem dc_FB_harm_117 : decode M_FB_harm.2.1 117 = .ok (.iastore, 1) := by decide +kernel
theorem dc_FB_harm_118 : decode M_FB_harm.2.1 118 = .ok (.goto 16, 3) := by decide +kernel
theorem dc_FB_harm_84 : decode M_FB_harm.2.1 84 = .ok (.iconst 0, 1) := by decide +kernel
theorem dc_FB_harm_85 : decode M_FB_harm.2.1 85 = .ok (.ireturn, 1) := by decide +kernel
theorem dc_FB_harm_134 : decode M_FB_harm.2.1 134 = .ok (.iconst 1, 1) := by decide +kernel
theorem dc_FB_harm_135 : decode M_FB_harm.2.1 135 = .ok (.ireturn, 1) := by decide +kernel
theorem dc_FB_segmentOf_0 : decode M_FB_segmentOf.2.1 0 = .ok (.iload_n 1, 1) := by decide +kernel
theorem dc_FB_segmentOf_1 : decode M_FB_segmentOf.2.1 1 = .ok (.iconst 0, 1) := by decide +kernel
theorem dc_FB_segmentOf_2 : decode M_FB_segmentOf.2.1 2 = .ok (.aload_n 0, 1) := by decide +kernel
theorem dc_FB_segmentOf_3 : decode M_FB_segmentOf.2.1 3 = .ok (.getfield 141, 3) := by decide +kernel
theorem dc_FB_segmentOf_6 : decode M_FB_segmentOf.2.1 6 = .ok (.invokevirtual 98, 3) := by decide +kernel
theorem dc_FB_segmentOf_9 : decode M_FB_segmentOf.2.1 9 = .ok (.iconst 1, 1) := by decide +kernel
theorem dc_FB_segmentOf_10 : decode M_FB_segmentOf.2.1 10 = .ok (.isub, 1) := by decide +kernel
theorem dc_FB_segmentOf_11 : decode M_FB_segmentOf.2.1 11 = .ok (.invokestatic 39, 3) := by decide +kernel
theorem dc_FB_segmentOf_14 : decode M_FB_segmentOf.2.1 14 = .ok (.invokestatic 43, 3) := by decide +kernel
theorem dc_FB_segmentOf_17 : decode M_FB_segmentOf.2.1 17 = .ok (.aload_n 0, 1) := by decide +kernel
theorem dc_FB_segmentOf_18 : decode M_FB_segmentOf.2.1 18 = .ok (.getfield 141, 3) := by decide +kernel
theorem dc_FB_segmentOf_21 : decode M_FB_segmentOf.2.1 21 = .ok (.iload_n 1, 1) := by decide +kernel
theorem dc_FB_segmentOf_22 : decode M_FB_segmentOf.2.1 22 = .ok (.invokevirtual 144, 3) := by decide +kernel
theorem dc_FB_segmentOf_25 : decode M_FB_segmentOf.2.1 25 = .ok (.checkcast 148, 3) := by decide +kernel
theorem dc_FB_segmentOf_28 : decode M_FB_segmentOf.2.1 28 = .ok (.astore_n 2, 1) := by decide +kernel
theorem dc_FB_segmentOf_29 : decode M_FB_segmentOf.2.1 29 = .ok (.aload_n 2, 1) := by decide +kernel
theorem dc_FB_segmentOf_30 : decode M_FB_segmentOf.2.1 30 = .ok (.getfield 222, 3) := by decide +kernel
theorem kf_0_222 : rF 0 222 = some (7, 4) := by decide +kernel
theorem dc_FB_segmentOf_33 : decode M_FB_segmentOf.2.1 33 = .ok (.ifCond .ne 7, 3) := by decide +kernel
theorem dc_FB_segmentOf_40 : decode M_FB_segmentOf.2.1 40 = .ok (.iconst 0, 1) := by decide +kernel
theorem dc_FB_segmentOf_36 : decode M_FB_segmentOf.2.1 36 = .ok (.iconst 1, 1) := by decide +kernel
theorem dc_FB_segmentOf_37 : decode M_FB_segmentOf.2.1 37 = .ok (.goto 4, 3) := by decide +kernel
theorem dc_FB_segmentOf_41 : decode M_FB_segmentOf.2.1 41 = .ok (.invokestatic 43, 3) := by decide +kernel
theorem dc_FB_segmentOf_44 : decode M_FB_segmentOf.2.1 44 = .ok (.aload_n 2, 1) := by decide +kernel
theorem dc_FB_segmentOf_45 : decode M_FB_segmentOf.2.1 45 = .ok (.areturn, 1) := by decide +kernel
theorem dc_La_recover_0 : decode M_La_recover.2.1 0 = .ok (.aload_n 2, 1) := by decide +kernel
theorem dc_La_recover_1 : decode M_La_recover.2.1 1 = .ok (.iconst 0, 1) := by decide +kernel
theorem dc_La_recover_2 : decode M_La_recover.2.1 2 = .ok (.aload_n 0, 1) := by decide +kernel
theorem dc_La_recover_3 : decode M_La_recover.2.1 3 = .ok (.iload_n 1, 1) := by decide +kernel
theorem dc_La_recover_4 : decode M_La_recover.2.1 4 = .ok (.invokevirtual 51, 3) := by decide +kernel
theorem km_11_51 : rM 11 51 = some (1, M_FB_recover) := rM_at (j := 83) (p := 789) (by decide +kernel) rfl
theorem np_FB_recover : nP M_FB_recover = 1 := by decide +kernel
theorem dc_La_recover_7 : decode M_La_recover.2.1 7 = .ok (.ifCond .eq 7, 3) := by decide +kernel
theorem dc_La_recover_14 : decode M_La_recover.2.1 14 = .ok (.lconst 0, 1) := by decide +kernel
theorem dc_La_recover_10 : decode M_La_recover.2.1 10 = .ok (.lconst 1, 1) := by decide +kernel
theorem dc_La_recover_11 : decode M_La_recover.2.1 11 = .ok (.goto 4, 3) := by decide +kernel
theorem dc_La_recover_15 : decode M_La_recover.2.1 15 = .ok (.lastore, 1) := by decide +kernel
theorem dc_La_recover_16 : decode M_La_recover.2.1 16 = .ok (.goto 6, 3) := by decide +kernel
theorem dc_La_recover_22 : decode M_La_recover.2.1 22 = .ok (.iconst 0, 1) := by decide +kernel
theorem dc_La_recover_23 : decode M_La_recover.2.1 23 = .ok (.ireturn, 1) := by decide +kernel
theorem dc_La_recover_19 : decode M_La_recover.2.1 19 = .ok (.astore_n 3, 1) := by decide +kernel
theorem dc_La_recover_20 : decode M_La_recover.2.1 20 = .ok (.iconst 1, 1) := by decide +kernel
theorem dc_La_recover_21 : decode M_La_recover.2.1 21 = .ok (.ireturn, 1) := by decide +kernel
theorem dc_FB_recover_0 : decode M_FB_recover.2.1 0 = .ok (.aload_n 0, 1) := by decide +kernel
theorem dc_FB_recover_1 : decode M_FB_recover.2.1 1 = .ok (.iload_n 1, 1) := by decide +kernel
theorem dc_FB_recover_2 : decode M_FB_recover.2.1 2 = .ok (.invokevirtual 60, 3) := by decide +kernel
theorem dc_FB_recover_5 : decode M_FB_recover.2.1 5 = .ok (.astore_n 2, 1) := by decide +kernel
theorem dc_FB_recover_6 : decode M_FB_recover.2.1 6 = .ok (.aload_n 2, 1) := by decide +kernel
theorem dc_FB_recover_7 : decode M_FB_recover.2.1 7 = .ok (.getfield 75, 3) := by decide +kernel
theorem dc_FB_recover_10 : decode M_FB_recover.2.1 10 = .ok (.ifCond .eq 23, 3) := by decide +kernel
theorem dc_FB_recover_13 : decode M_FB_recover.2.1 13 = .ok (.aload_n 2, 1) := by decide +kernel
theorem dc_FB_recover_14 : decode M_FB_recover.2.1 14 = .ok (.getfield 189, 3) := by decide +kernel
theorem dc_FB_recover_17 : decode M_FB_recover.2.1 17 = .ok (.ifCond .eq 11, 3) := by decide +kernel
theorem dc_FB_recover_20 : decode M_FB_recover.2.1 20 = .ok (.aload_n 0, 1) := by decide +kernel
theorem dc_FB_recover_21 : decode M_FB_recover.2.1 21 = .ok (.aload_n 2, 1) := by decide +kernel
theorem dc_FB_recover_22 : decode M_FB_recover.2.1 22 = .ok (.invokevirtual 192, 3) := by decide +kernel
theorem km_0_192 : rM 0 192 = some (1, M_FB_hasReachable) := rM_at (j := 84) (p := 793) (by decide +kernel) rfl
theorem np_FB_hasReachable : nP M_FB_hasReachable = 1 := by decide +kernel
theorem dc_FB_recover_25 : decode M_FB_recover.2.1 25 = .ok (.ifCond .eq 8, 3) := by decide +kernel
theorem dc_FB_recover_28 : decode M_FB_recover.2.1 28 = .ok (.aload_n 2, 1) := by decide +kernel
theorem dc_FB_recover_29 : decode M_FB_recover.2.1 29 = .ok (.iconst 0, 1) := by decide +kernel
theorem dc_FB_recover_30 : decode M_FB_recover.2.1 30 = .ok (.putfield 75, 3) := by decide +kernel
theorem kp_FB_recover_5_12 : fpB M_FB_recover 5 12 = true := by decide +kernel
theorem dc_FB_recover_33 : decode M_FB_recover.2.1 33 = .ok (.aload_n 2, 1) := by decide +kernel
theorem dc_FB_recover_34 : decode M_FB_recover.2.1 34 = .ok (.getfield 75, 3) := by decide +kernel
theorem dc_FB_recover_37 : decode M_FB_recover.2.1 37 = .ok (.ifCond .ne 7, 3) := by decide +kernel
theorem dc_FB_recover_44 : decode M_FB_recover.2.1 44 = .ok (.iconst 0, 1) := by decide +kernel
theorem dc_FB_recover_40 : decode M_FB_recover.2.1 40 = .ok (.iconst 1, 1) := by decide +kernel
theorem dc_FB_recover_41 : decode M_FB_recover.2.1 41 = .ok (.goto 4, 3) := by decide +kernel
theorem dc_FB_recover_45 : decode M_FB_recover.2.1 45 = .ok (.ireturn, 1) := by decide +kernel
theorem dc_FB_hasReachable_0 : decode M_FB_hasReachable.2.1 0 = .ok (.iconst 0, 1) := by decide +kernel
theorem dc_FB_hasReachable_1 : decode M_FB_hasReachable.2.1 1 = .ok (.istore_n 2, 1) := by decide +kernel
theorem dc_FB_hasReachable_2 : decode M_FB_hasReachable.2.1 2 = .ok (.iload_n 2, 1) := by decide +kernel
theorem dc_FB_hasReachable_3 : decode M_FB_hasReachable.2.1 3 = .ok (.aload_n 1, 1) := by decide +kernel
theorem dc_FB_hasReachable_4 : decode M_FB_hasReachable.2.1 4 = .ok (.getfield 141, 3) := by decide +kernel
theorem dc_FB_hasReachable_7 : decode M_FB_hasReachable.2.1 7 = .ok (.invokevirtual 98, 3) := by decide +kernel
theorem dc_FB_hasReachable_10 : decode M_FB_hasReachable.2.1 10 = .ok (.if_icmp .ge 29, 3) := by decide +kernel
theorem dc_FB_hasReachable_39 : decode M_FB_hasReachable.2.1 39 = .ok (.iconst 0, 1) := by decide +kernel
theorem dc_FB_hasReachable_40 : decode M_FB_hasReachable.2.1 40 = .ok (.ireturn, 1) := by decide +kernel
theorem dc_FB_hasReachable_13 : decode M_FB_hasReachable.2.1 13 = .ok (.aload_n 0, 1) := by decide +kernel
theorem dc_FB_hasReachable_14 : decode M_FB_hasReachable.2.1 14 = .ok (.aload_n 1, 1) := by decide +kernel
theorem dc_FB_hasReachable_15 : decode M_FB_hasReachable.2.1 15 = .ok (.getfield 141, 3) := by decide +kernel
theorem dc_FB_hasReachable_18 : decode M_FB_hasReachable.2.1 18 = .ok (.iload_n 2, 1) := by decide +kernel
theorem dc_FB_hasReachable_19 : decode M_FB_hasReachable.2.1 19 = .ok (.invokevirtual 144, 3) := by decide +kernel
theorem dc_FB_hasReachable_22 : decode M_FB_hasReachable.2.1 22 = .ok (.checkcast 148, 3) := by decide +kernel
theorem dc_FB_hasReachable_25 : decode M_FB_hasReachable.2.1 25 = .ok (.invokevirtual 225, 3) := by decide +kernel
theorem km_0_225 : rM 0 225 = some (1, M_FB_countReachable) := rM_at (j := 85) (p := 797) (by decide +kernel) rfl
theorem np_FB_countReachable : nP M_FB_countReachable = 1 := by decide +kernel
theorem dc_FB_hasReachable_28 : decode M_FB_hasReachable.2.1 28 = .ok (.ifCond .le 5, 3) := by decide +kernel
theorem dc_FB_hasReachable_33 : decode M_FB_hasReachable.2.1 33 = .ok (.iinc 2 1, 3) := by decide +kernel
theorem dc_FB_hasReachable_36 : decode M_FB_hasReachable.2.1 36 = .ok (.goto (-34), 3) := by decide +kernel
theorem dc_FB_hasReachable_31 : decode M_FB_hasReachable.2.1 31 = .ok (.iconst 1, 1) := by decide +kernel
theorem dc_FB_hasReachable_32 : decode M_FB_hasReachable.2.1 32 = .ok (.ireturn, 1) := by decide +kernel
theorem dc_FB_countReachable_0 : decode M_FB_countReachable.2.1 0 = .ok (.iconst 0, 1) := by decide +kernel
theorem dc_FB_countReachable_1 : decode M_FB_countReachable.2.1 1 = .ok (.istore_n 2, 1) := by decide +kernel
theorem dc_FB_countReachable_2 : decode M_FB_countReachable.2.1 2 = .ok (.iconst 0, 1) := by decide +kernel
theorem dc_FB_countReachable_3 : decode M_FB_countReachable.2.1 3 = .ok (.istore_n 3, 1) := by decide +kernel
theorem dc_FB_countReachable_4 : decode M_FB_countReachable.2.1 4 = .ok (.iload_n 3, 1) := by decide +kernel
theorem dc_FB_countReachable_5 : decode M_FB_countReachable.2.1 5 = .ok (.aload_n 1, 1) := by decide +kernel
theorem dc_FB_countReachable_6 : decode M_FB_countReachable.2.1 6 = .ok (.getfield 177, 3) := by decide +kernel
theorem dc_FB_countReachable_9 : decode M_FB_countReachable.2.1 9 = .ok (.arraylength, 1) := by decide +kernel
theorem dc_FB_countReachable_10 : decode M_FB_countReachable.2.1 10 = .ok (.if_icmp .ge 25, 3) := by decide +kernel
theorem dc_FB_countReachable_35 : decode M_FB_countReachable.2.1 35 = .ok (.iload_n 2, 1) := by decide +kernel
theorem dc_FB_countReachable_36 : decode M_FB_countReachable.2.1 36 = .ok (.ireturn, 1) := by decide +kernel
theorem dc_FB_countReachable_13 : decode M_FB_countReachable.2.1 13 = .ok (.aload_n 0, 1) := by decide +kernel
theorem dc_FB_countReachable_14 : decode M_FB_countReachable.2.1 14 = .ok (.aload_n 1, 1) := by decide +kernel
theorem dc_FB_countReachable_15 : decode M_FB_countReachable.2.1 15 = .ok (.getfield 177, 3) := by decide +kernel
theorem dc_FB_countReachable_18 : decode M_FB_countReachable.2.1 18 = .ok (.iload_n 3, 1) := by decide +kernel
theorem dc_FB_countReachable_19 : decode M_FB_countReachable.2.1 19 = .ok (.aaload, 1) := by decide +kernel
theorem dc_FB_countReachable_20 : decode M_FB_countReachable.2.1 20 = .ok (.invokevirtual 270, 3) := by decide +kernel
theorem km_0_270 : rM 0 270 = some (1, M_FB_isReachable) := rM_at (j := 86) (p := 801) (by decide +kernel) rfl
theorem np_FB_isReachable : nP M_FB_isReachable = 1 := by decide +kernel
theorem dc_FB_countReachable_23 : decode M_FB_countReachable.2.1 23 = .ok (.ifCond .eq 6, 3) := by decide +kernel
theorem dc_FB_countReachable_26 : decode M_FB_countReachable.2.1 26 = .ok (.iinc 2 1, 3) := by decide +kernel
theorem dc_FB_countReachable_29 : decode M_FB_countReachable.2.1 29 = .ok (.iinc 3 1, 3) := by decide +kernel
theorem dc_FB_countReachable_32 : decode M_FB_countReachable.2.1 32 = .ok (.goto (-28), 3) := by decide +kernel
theorem dc_FB_isReachable_0 : decode M_FB_isReachable.2.1 0 = .ok (.aload_n 1, 1) := by decide +kernel
theorem dc_FB_isReachable_1 : decode M_FB_isReachable.2.1 1 = .ok (.getfield 181, 3) := by decide +kernel
theorem dc_FB_isReachable_4 : decode M_FB_isReachable.2.1 4 = .ok (.ifCond .eq 18, 3) := by decide +kernel
theorem dc_FB_isReachable_7 : decode M_FB_isReachable.2.1 7 = .ok (.aload_n 0, 1) := by decide +kernel
theorem dc_FB_isReachable_8 : decode M_FB_isReachable.2.1 8 = .ok (.aload_n 1, 1) := by decide +kernel
theorem dc_FB_isReachable_9 : decode M_FB_isReachable.2.1 9 = .ok (.getfield 206, 3) := by decide +kernel
theorem dc_FB_isReachable_12 : decode M_FB_isReachable.2.1 12 = .ok (.invokevirtual 209, 3) := by decide +kernel
theorem km_0_209 : rM 0 209 = some (1, M_FB_isUp) := rM_at (j := 87) (p := 805) (by decide +kernel) rfl
theorem np_FB_isUp : nP M_FB_isUp = 1 := by decide +kernel
theorem dc_FB_isReachable_15 : decode M_FB_isReachable.2.1 15 = .ok (.ifCond .eq 7, 3) := by decide +kernel
theorem dc_FB_isReachable_18 : decode M_FB_isReachable.2.1 18 = .ok (.iconst 1, 1) := by decide +kernel
theorem dc_FB_isReachable_19 : decode M_FB_isReachable.2.1 19 = .ok (.goto 4, 3) := by decide +kernel
theorem dc_FB_isReachable_22 : decode M_FB_isReachable.2.1 22 = .ok (.iconst 0, 1) := by decide +kernel
theorem dc_FB_isReachable_23 : decode M_FB_isReachable.2.1 23 = .ok (.ireturn, 1) := by decide +kernel
theorem dc_FB_isUp_0 : decode M_FB_isUp.2.1 0 = .ok (.iload_n 1, 1) := by decide +kernel
theorem dc_FB_isUp_1 : decode M_FB_isUp.2.1 1 = .ok (.iconst 0, 1) := by decide +kernel
theorem dc_FB_isUp_2 : decode M_FB_isUp.2.1 2 = .ok (.bipush 9, 2) := by decide +kernel
theorem dc_FB_isUp_4 : decode M_FB_isUp.2.1 4 = .ok (.invokestatic 39, 3) := by decide +kernel
theorem dc_FB_isUp_7 : decode M_FB_isUp.2.1 7 = .ok (.ifCond .eq 28, 3) := by decide +kernel
theorem dc_FB_isUp_10 : decode M_FB_isUp.2.1 10 = .ok (.aload_n 0, 1) := by decide +kernel
theorem dc_FB_isUp_11 : decode M_FB_isUp.2.1 11 = .ok (.getfield 11, 3) := by decide +kernel
theorem dc_FB_isUp_14 : decode M_FB_isUp.2.1 14 = .ok (.iload_n 1, 1) := by decide +kernel
theorem dc_FB_isUp_15 : decode M_FB_isUp.2.1 15 = .ok (.aaload, 1) := by decide +kernel
theorem dc_FB_isUp_16 : decode M_FB_isUp.2.1 16 = .ok (.ifnull 19, 3) := by decide +kernel
theorem dc_FB_isUp_19 : decode M_FB_isUp.2.1 19 = .ok (.aload_n 0, 1) := by decide +kernel
theorem dc_FB_isUp_20 : decode M_FB_isUp.2.1 20 = .ok (.getfield 11, 3) := by decide +kernel
theorem dc_FB_isUp_23 : decode M_FB_isUp.2.1 23 = .ok (.iload_n 1, 1) := by decide +kernel
theorem dc_FB_isUp_24 : decode M_FB_isUp.2.1 24 = .ok (.aaload, 1) := by decide +kernel
theorem dc_FB_isUp_25 : decode M_FB_isUp.2.1 25 = .ok (.getfield 138, 3) := by decide +kernel
theorem dc_FB_isUp_28 : decode M_FB_isUp.2.1 28 = .ok (.ifCond .eq 7, 3) := by decide +kernel
theorem dc_FB_isUp_31 : decode M_FB_isUp.2.1 31 = .ok (.iconst 1, 1) := by decide +kernel
theorem dc_FB_isUp_32 : decode M_FB_isUp.2.1 32 = .ok (.goto 4, 3) := by decide +kernel
theorem dc_FB_isUp_35 : decode M_FB_isUp.2.1 35 = .ok (.iconst 0, 1) := by decide +kernel
theorem dc_FB_isUp_36 : decode M_FB_isUp.2.1 36 = .ok (.ireturn, 1) := by decide +kernel
theorem dc_La_sample_0 : decode M_La_sample.2.1 0 = .ok (.aload 4, 2) := by decide +kernel
theorem dc_La_sample_2 : decode M_La_sample.2.1 2 = .ok (.iconst 0, 1) := by decide +kernel
theorem dc_La_sample_3 : decode M_La_sample.2.1 3 = .ok (.aload_n 0, 1) := by decide +kernel
theorem dc_La_sample_4 : decode M_La_sample.2.1 4 = .ok (.iload_n 1, 1) := by decide +kernel
theorem dc_La_sample_5 : decode M_La_sample.2.1 5 = .ok (.iload_n 2, 1) := by decide +kernel
theorem dc_La_sample_6 : decode M_La_sample.2.1 6 = .ok (.iload_n 3, 1) := by decide +kernel
theorem dc_La_sample_7 : decode M_La_sample.2.1 7 = .ok (.invokevirtual 55, 3) := by decide +kernel
theorem km_11_55 : rM 11 55 = some (1, M_FB_sample) := rM_at (j := 89) (p := 812) (by decide +kernel) rfl
theorem np_FB_sample : nP M_FB_sample = 3 := by decide +kernel
theorem dc_La_sample_10 : decode M_La_sample.2.1 10 = .ok (.i2l, 1) := by decide +kernel
theorem dc_La_sample_11 : decode M_La_sample.2.1 11 = .ok (.lastore, 1) := by decide +kernel
theorem dc_La_sample_12 : decode M_La_sample.2.1 12 = .ok (.goto 11, 3) := by decide +kernel
theorem dc_La_sample_23 : decode M_La_sample.2.1 23 = .ok (.iconst 0, 1) := by decide +kernel
theorem dc_La_sample_24 : decode M_La_sample.2.1 24 = .ok (.ireturn, 1) := by decide +kernel
theorem dc_La_sample_15 : decode M_La_sample.2.1 15 = .ok (.astore 5, 2) := by decide +kernel
theorem dc_La_sample_17 : decode M_La_sample.2.1 17 = .ok (.iconst 1, 1) := by decide +kernel
theorem dc_La_sample_18 : decode M_La_sample.2.1 18 = .ok (.ireturn, 1) := by decide +kernel
theorem dc_La_sample_19 : decode M_La_sample.2.1 19 = .ok (.astore 5, 2) := by decide +kernel
theorem dc_La_sample_21 : decode M_La_sample.2.1 21 = .ok (.iconst 2, 1) := by decide +kernel
theorem dc_La_sample_22 : decode M_La_sample.2.1 22 = .ok (.ireturn, 1) := by decide +kernel
theorem dc_FB_sample_0 : decode M_FB_sample.2.1 0 = .ok (.aload_n 0, 1) := by decide +kernel
theorem dc_FB_sample_1 : decode M_FB_sample.2.1 1 = .ok (.iload_n 1, 1) := by decide +kernel
theorem dc_FB_sample_2 : decode M_FB_sample.2.1 2 = .ok (.invokevirtual 60, 3) := by decide +kernel
theorem dc_FB_sample_5 : decode M_FB_sample.2.1 5 = .ok (.astore 4, 2) := by decide +kernel
theorem dc_FB_sample_7 : decode M_FB_sample.2.1 7 = .ok (.aload 4, 2) := by decide +kernel
theorem dc_FB_sample_9 : decode M_FB_sample.2.1 9 = .ok (.iload_n 2, 1) := by decide +kernel
theorem dc_FB_sample_10 : decode M_FB_sample.2.1 10 = .ok (.invokestatic 166, 3) := by decide +kernel
theorem dc_FB_sample_13 : decode M_FB_sample.2.1 13 = .ok (.iload_n 3, 1) := by decide +kernel
theorem dc_FB_sample_14 : decode M_FB_sample.2.1 14 = .ok (.invokestatic 195, 3) := by decide +kernel
theorem km_0_195 : rM 0 195 = some (0, M_FB_pieceOf) := rM_at (j := 90) (p := 816) (by decide +kernel) rfl
theorem np_FB_pieceOf : nP M_FB_pieceOf = 2 := by decide +kernel
theorem dc_FB_sample_17 : decode M_FB_sample.2.1 17 = .ok (.astore 5, 2) := by decide +kernel
theorem dc_FB_sample_19 : decode M_FB_sample.2.1 19 = .ok (.aload 4, 2) := by decide +kernel
theorem dc_FB_sample_21 : decode M_FB_sample.2.1 21 = .ok (.getfield 75, 3) := by decide +kernel
theorem dc_FB_sample_24 : decode M_FB_sample.2.1 24 = .ok (.ifCond .ne 7, 3) := by decide +kernel
theorem dc_FB_sample_31 : decode M_FB_sample.2.1 31 = .ok (.iconst 0, 1) := by decide +kernel
theorem dc_FB_sample_27 : decode M_FB_sample.2.1 27 = .ok (.iconst 1, 1) := by decide +kernel
theorem dc_FB_sample_28 : decode M_FB_sample.2.1 28 = .ok (.goto 4, 3) := by decide +kernel
theorem dc_FB_sample_32 : decode M_FB_sample.2.1 32 = .ok (.invokestatic 51, 3) := by decide +kernel
theorem dc_FB_sample_35 : decode M_FB_sample.2.1 35 = .ok (.aload 5, 2) := by decide +kernel
theorem dc_FB_sample_37 : decode M_FB_sample.2.1 37 = .ok (.invokevirtual 199, 3) := by decide +kernel
theorem dc_FB_sample_40 : decode M_FB_sample.2.1 40 = .ok (.ifCond .eq 13, 3) := by decide +kernel
theorem dc_FB_sample_43 : decode M_FB_sample.2.1 43 = .ok (.aload 5, 2) := by decide +kernel
theorem dc_FB_sample_45 : decode M_FB_sample.2.1 45 = .ok (.getfield 203, 3) := by decide +kernel
theorem dc_FB_sample_48 : decode M_FB_sample.2.1 48 = .ok (.bipush 8, 2) := by decide +kernel
theorem dc_FB_sample_50 : decode M_FB_sample.2.1 50 = .ok (.if_icmp .lt 5, 3) := by decide +kernel
theorem dc_FB_sample_55 : decode M_FB_sample.2.1 55 = .ok (.aload 5, 2) := by decide +kernel
theorem dc_FB_sample_57 : decode M_FB_sample.2.1 57 = .ok (.getfield 203, 3) := by decide +kernel
theorem dc_FB_sample_60 : decode M_FB_sample.2.1 60 = .ok (.istore 6, 2) := by decide +kernel
theorem dc_FB_sample_62 : decode M_FB_sample.2.1 62 = .ok (.aload 5, 2) := by decide +kernel
theorem dc_FB_sample_64 : decode M_FB_sample.2.1 64 = .ok (.dup, 1) := by decide +kernel
theorem dc_FB_sample_65 : decode M_FB_sample.2.1 65 = .ok (.getfield 203, 3) := by decide +kernel
theorem dc_FB_sample_68 : decode M_FB_sample.2.1 68 = .ok (.iconst 1, 1) := by decide +kernel
theorem dc_FB_sample_69 : decode M_FB_sample.2.1 69 = .ok (.iadd, 1) := by decide +kernel
theorem dc_FB_sample_70 : decode M_FB_sample.2.1 70 = .ok (.putfield 203, 3) := by decide +kernel
theorem kp_FB_sample_6_4 : fpB M_FB_sample 6 4 = true := by decide +kernel
theorem dc_FB_sample_73 : decode M_FB_sample.2.1 73 = .ok (.aload_n 0, 1) := by decide +kernel
theorem dc_FB_sample_74 : decode M_FB_sample.2.1 74 = .ok (.aload 5, 2) := by decide +kernel
theorem dc_FB_sample_76 : decode M_FB_sample.2.1 76 = .ok (.getfield 206, 3) := by decide +kernel
theorem dc_FB_sample_79 : decode M_FB_sample.2.1 79 = .ok (.invokevirtual 209, 3) := by decide +kernel
theorem dc_FB_sample_53 : decode M_FB_sample.2.1 53 = .ok (.iconst (-1), 1) := by decide +kernel
theorem dc_FB_sample_54 : decode M_FB_sample.2.1 54 = .ok (.ireturn, 1) := by decide +kernel
theorem dc_FB_sample_82 : decode M_FB_sample.2.1 82 = .ok (.ifCond .ne 5, 3) := by decide +kernel
theorem dc_FB_sample_87 : decode M_FB_sample.2.1 87 = .ok (.aload 5, 2) := by decide +kernel
theorem dc_FB_sample_89 : decode M_FB_sample.2.1 89 = .ok (.getfield 181, 3) := by decide +kernel
theorem dc_FB_sample_92 : decode M_FB_sample.2.1 92 = .ok (.ifCond .eq 32, 3) := by decide +kernel
theorem dc_FB_sample_95 : decode M_FB_sample.2.1 95 = .ok (.aload_n 0, 1) := by decide +kernel
theorem dc_FB_sample_96 : decode M_FB_sample.2.1 96 = .ok (.getfield 18, 3) := by decide +kernel
theorem dc_FB_sample_99 : decode M_FB_sample.2.1 99 = .ok (.aload 5, 2) := by decide +kernel
theorem dc_FB_sample_101 : decode M_FB_sample.2.1 101 = .ok (.getfield 186, 3) := by decide +kernel
theorem dc_FB_sample_104 : decode M_FB_sample.2.1 104 = .ok (.iload 6, 2) := by decide +kernel
theorem dc_FB_sample_106 : decode M_FB_sample.2.1 106 = .ok (.invokevirtual 212, 3) := by decide +kernel
theorem km_0_212 : rM 0 212 = some (1, M_Coder_answer) := rM_at (j := 72) (p := 819) (by decide +kernel) rfl
theorem dc_FB_sample_85 : decode M_FB_sample.2.1 85 = .ok (.iconst 2, 1) := by decide +kernel
theorem dc_FB_sample_86 : decode M_FB_sample.2.1 86 = .ok (.ireturn, 1) := by decide +kernel
theorem dc_FB_sample_109 : decode M_FB_sample.2.1 109 = .ok (.aload 5, 2) := by decide +kernel
theorem dc_FB_sample_111 : decode M_FB_sample.2.1 111 = .ok (.getfield 216, 3) := by decide +kernel
theorem dc_FB_sample_114 : decode M_FB_sample.2.1 114 = .ok (.iload 6, 2) := by decide +kernel
theorem dc_FB_sample_116 : decode M_FB_sample.2.1 116 = .ok (.iaload, 1) := by decide +kernel
theorem dc_FB_sample_117 : decode M_FB_sample.2.1 117 = .ok (.if_icmp .ne 7, 3) := by decide +kernel
theorem dc_FB_sample_120 : decode M_FB_sample.2.1 120 = .ok (.iconst 1, 1) := by decide +kernel
theorem dc_FB_sample_121 : decode M_FB_sample.2.1 121 = .ok (.goto 4, 3) := by decide +kernel
theorem dc_FB_sample_124 : decode M_FB_sample.2.1 124 = .ok (.iconst 0, 1) := by decide +kernel
theorem dc_FB_sample_125 : decode M_FB_sample.2.1 125 = .ok (.istore 7, 2) := by decide +kernel
theorem dc_FB_sample_127 : decode M_FB_sample.2.1 127 = .ok (.iload 7, 2) := by decide +kernel
theorem dc_FB_sample_129 : decode M_FB_sample.2.1 129 = .ok (.ifCond .eq 7, 3) := by decide +kernel
theorem dc_FB_sample_136 : decode M_FB_sample.2.1 136 = .ok (.iconst 0, 1) := by decide +kernel
theorem dc_FB_sample_132 : decode M_FB_sample.2.1 132 = .ok (.iconst 1, 1) := by decide +kernel
theorem dc_FB_sample_133 : decode M_FB_sample.2.1 133 = .ok (.goto 4, 3) := by decide +kernel
theorem dc_FB_sample_137 : decode M_FB_sample.2.1 137 = .ok (.ireturn, 1) := by decide +kernel
theorem dc_FB_pieceOf_0 : decode M_FB_pieceOf.2.1 0 = .ok (.iload_n 1, 1) := by decide +kernel
theorem dc_FB_pieceOf_1 : decode M_FB_pieceOf.2.1 1 = .ok (.iconst 0, 1) := by decide +kernel
theorem dc_FB_pieceOf_2 : decode M_FB_pieceOf.2.1 2 = .ok (.aload_n 0, 1) := by decide +kernel
theorem dc_FB_pieceOf_3 : decode M_FB_pieceOf.2.1 3 = .ok (.getfield 177, 3) := by decide +kernel
theorem dc_FB_pieceOf_6 : decode M_FB_pieceOf.2.1 6 = .ok (.arraylength, 1) := by decide +kernel
theorem dc_FB_pieceOf_7 : decode M_FB_pieceOf.2.1 7 = .ok (.iconst 1, 1) := by decide +kernel
theorem dc_FB_pieceOf_8 : decode M_FB_pieceOf.2.1 8 = .ok (.isub, 1) := by decide +kernel
theorem dc_FB_pieceOf_9 : decode M_FB_pieceOf.2.1 9 = .ok (.invokestatic 39, 3) := by decide +kernel
theorem dc_FB_pieceOf_12 : decode M_FB_pieceOf.2.1 12 = .ok (.invokestatic 43, 3) := by decide +kernel
theorem dc_FB_pieceOf_15 : decode M_FB_pieceOf.2.1 15 = .ok (.aload_n 0, 1) := by decide +kernel
theorem dc_FB_pieceOf_16 : decode M_FB_pieceOf.2.1 16 = .ok (.getfield 177, 3) := by decide +kernel
theorem dc_FB_pieceOf_19 : decode M_FB_pieceOf.2.1 19 = .ok (.iload_n 1, 1) := by decide +kernel
theorem dc_FB_pieceOf_20 : decode M_FB_pieceOf.2.1 20 = .ok (.aaload, 1) := by decide +kernel
theorem dc_FB_pieceOf_21 : decode M_FB_pieceOf.2.1 21 = .ok (.areturn, 1) := by decide +kernel
theorem dc_La_audit_0 : decode M_La_audit.2.1 0 = .ok (.aload_n 2, 1) := by decide +kernel
theorem dc_La_audit_1 : decode M_La_audit.2.1 1 = .ok (.iconst 0, 1) := by decide +kernel
theorem dc_La_audit_2 : decode M_La_audit.2.1 2 = .ok (.aload_n 0, 1) := by decide +kernel
theorem dc_La_audit_3 : decode M_La_audit.2.1 3 = .ok (.iload_n 1, 1) := by decide +kernel
theorem dc_La_audit_4 : decode M_La_audit.2.1 4 = .ok (.invokevirtual 58, 3) := by decide +kernel
theorem km_11_58 : rM 11 58 = some (1, M_FB_audit) := rM_at (j := 92) (p := 823) (by decide +kernel) rfl
theorem np_FB_audit : nP M_FB_audit = 1 := by decide +kernel
theorem dc_La_audit_7 : decode M_La_audit.2.1 7 = .ok (.i2l, 1) := by decide +kernel
theorem dc_La_audit_8 : decode M_La_audit.2.1 8 = .ok (.lastore, 1) := by decide +kernel
theorem dc_La_audit_9 : decode M_La_audit.2.1 9 = .ok (.goto 9, 3) := by decide +kernel
theorem dc_La_audit_18 : decode M_La_audit.2.1 18 = .ok (.iconst 0, 1) := by decide +kernel
theorem dc_La_audit_19 : decode M_La_audit.2.1 19 = .ok (.ireturn, 1) := by decide +kernel
theorem dc_La_audit_12 : decode M_La_audit.2.1 12 = .ok (.astore_n 3, 1) := by decide +kernel
theorem dc_La_audit_13 : decode M_La_audit.2.1 13 = .ok (.iconst 1, 1) := by decide +kernel
theorem dc_La_audit_14 : decode M_La_audit.2.1 14 = .ok (.ireturn, 1) := by decide +kernel
theorem dc_La_audit_15 : decode M_La_audit.2.1 15 = .ok (.astore_n 3, 1) := by decide +kernel
theorem dc_La_audit_16 : decode M_La_audit.2.1 16 = .ok (.iconst 2, 1) := by decide +kernel
theorem dc_La_audit_17 : decode M_La_audit.2.1 17 = .ok (.ireturn, 1) := by decide +kernel
theorem dc_FB_audit_0 : decode M_FB_audit.2.1 0 = .ok (.aload_n 0, 1) := by decide +kernel
theorem dc_FB_audit_1 : decode M_FB_audit.2.1 1 = .ok (.iload_n 1, 1) := by decide +kernel
theorem dc_FB_audit_2 : decode M_FB_audit.2.1 2 = .ok (.invokevirtual 60, 3) := by decide +kernel
theorem dc_FB_audit_5 : decode M_FB_audit.2.1 5 = .ok (.astore_n 2, 1) := by decide +kernel
theorem dc_FB_audit_6 : decode M_FB_audit.2.1 6 = .ok (.aload_n 2, 1) := by decide +kernel
theorem dc_FB_audit_7 : decode M_FB_audit.2.1 7 = .ok (.getfield 75, 3) := by decide +kernel
theorem dc_FB_audit_10 : decode M_FB_audit.2.1 10 = .ok (.ifCond .ne 7, 3) := by decide +kernel
theorem dc_FB_audit_17 : decode M_FB_audit.2.1 17 = .ok (.iconst 0, 1) := by decide +kernel
theorem dc_FB_audit_13 : decode M_FB_audit.2.1 13 = .ok (.iconst 1, 1) := by decide +kernel
theorem dc_FB_audit_14 : decode M_FB_audit.2.1 14 = .ok (.goto 4, 3) := by decide +kernel
theorem dc_FB_audit_18 : decode M_FB_audit.2.1 18 = .ok (.invokestatic 51, 3) := by decide +kernel
theorem dc_FB_audit_21 : decode M_FB_audit.2.1 21 = .ok (.iconst 0, 1) := by decide +kernel
theorem dc_FB_audit_22 : decode M_FB_audit.2.1 22 = .ok (.istore_n 3, 1) := by decide +kernel
theorem dc_FB_audit_23 : decode M_FB_audit.2.1 23 = .ok (.iconst 0, 1) := by decide +kernel
theorem dc_FB_audit_24 : decode M_FB_audit.2.1 24 = .ok (.istore 4, 2) := by decide +kernel
theorem dc_FB_audit_26 : decode M_FB_audit.2.1 26 = .ok (.iload 4, 2) := by decide +kernel
theorem dc_FB_audit_28 : decode M_FB_audit.2.1 28 = .ok (.aload_n 2, 1) := by decide +kernel
theorem dc_FB_audit_29 : decode M_FB_audit.2.1 29 = .ok (.getfield 141, 3) := by decide +kernel
theorem dc_FB_audit_32 : decode M_FB_audit.2.1 32 = .ok (.invokevirtual 98, 3) := by decide +kernel
theorem dc_FB_audit_35 : decode M_FB_audit.2.1 35 = .ok (.if_icmp .ge 41, 3) := by decide +kernel
theorem dc_FB_audit_76 : decode M_FB_audit.2.1 76 = .ok (.iload_n 3, 1) := by decide +kernel
theorem dc_FB_audit_77 : decode M_FB_audit.2.1 77 = .ok (.ireturn, 1) := by decide +kernel
theorem dc_FB_audit_38 : decode M_FB_audit.2.1 38 = .ok (.aload_n 2, 1) := by decide +kernel
theorem dc_FB_audit_39 : decode M_FB_audit.2.1 39 = .ok (.getfield 141, 3) := by decide +kernel
theorem dc_FB_audit_42 : decode M_FB_audit.2.1 42 = .ok (.iload 4, 2) := by decide +kernel
theorem dc_FB_audit_44 : decode M_FB_audit.2.1 44 = .ok (.invokevirtual 144, 3) := by decide +kernel
theorem dc_FB_audit_47 : decode M_FB_audit.2.1 47 = .ok (.checkcast 148, 3) := by decide +kernel
theorem dc_FB_audit_50 : decode M_FB_audit.2.1 50 = .ok (.astore 5, 2) := by decide +kernel
theorem dc_FB_audit_52 : decode M_FB_audit.2.1 52 = .ok (.aload 5, 2) := by decide +kernel
theorem dc_FB_audit_54 : decode M_FB_audit.2.1 54 = .ok (.getfield 150, 3) := by decide +kernel
theorem dc_FB_audit_57 : decode M_FB_audit.2.1 57 = .ok (.ifCond .eq 13, 3) := by decide +kernel
theorem dc_FB_audit_60 : decode M_FB_audit.2.1 60 = .ok (.iload_n 3, 1) := by decide +kernel
theorem dc_FB_audit_61 : decode M_FB_audit.2.1 61 = .ok (.aload_n 0, 1) := by decide +kernel
theorem dc_FB_audit_62 : decode M_FB_audit.2.1 62 = .ok (.aload_n 2, 1) := by decide +kernel
theorem dc_FB_audit_63 : decode M_FB_audit.2.1 63 = .ok (.aload 5, 2) := by decide +kernel
theorem dc_FB_audit_65 : decode M_FB_audit.2.1 65 = .ok (.invokevirtual 219, 3) := by decide +kernel
theorem km_0_219 : rM 0 219 = some (1, M_FB_auditSegment) := rM_at (j := 93) (p := 827) (by decide +kernel) rfl
theorem np_FB_auditSegment : nP M_FB_auditSegment = 2 := by decide +kernel
theorem dc_FB_audit_68 : decode M_FB_audit.2.1 68 = .ok (.iadd, 1) := by decide +kernel
theorem dc_FB_audit_69 : decode M_FB_audit.2.1 69 = .ok (.istore_n 3, 1) := by decide +kernel
theorem dc_FB_audit_70 : decode M_FB_audit.2.1 70 = .ok (.iinc 4 1, 3) := by decide +kernel
theorem dc_FB_audit_73 : decode M_FB_audit.2.1 73 = .ok (.goto (-47), 3) := by decide +kernel
theorem dc_FB_auditSegment_0 : decode M_FB_auditSegment.2.1 0 = .ok (.iconst 0, 1) := by decide +kernel
theorem dc_FB_auditSegment_1 : decode M_FB_auditSegment.2.1 1 = .ok (.istore_n 3, 1) := by decide +kernel
theorem dc_FB_auditSegment_2 : decode M_FB_auditSegment.2.1 2 = .ok (.iconst 0, 1) := by decide +kernel
theorem dc_FB_auditSegment_3 : decode M_FB_auditSegment.2.1 3 = .ok (.istore 4, 2) := by decide +kernel
theorem dc_FB_auditSegment_5 : decode M_FB_auditSegment.2.1 5 = .ok (.iload 4, 2) := by decide +kernel
theorem dc_FB_auditSegment_7 : decode M_FB_auditSegment.2.1 7 = .ok (.aload_n 2, 1) := by decide +kernel
theorem dc_FB_auditSegment_8 : decode M_FB_auditSegment.2.1 8 = .ok (.getfield 177, 3) := by decide +kernel
theorem dc_FB_auditSegment_11 : decode M_FB_auditSegment.2.1 11 = .ok (.arraylength, 1) := by decide +kernel
theorem dc_FB_auditSegment_12 : decode M_FB_auditSegment.2.1 12 = .ok (.if_icmp .ge 63, 3) := by decide +kernel
theorem dc_FB_auditSegment_75 : decode M_FB_auditSegment.2.1 75 = .ok (.iload_n 3, 1) := by decide +kernel
theorem dc_FB_auditSegment_76 : decode M_FB_auditSegment.2.1 76 = .ok (.ireturn, 1) := by decide +kernel
theorem dc_FB_auditSegment_15 : decode M_FB_auditSegment.2.1 15 = .ok (.aload_n 2, 1) := by decide +kernel
theorem dc_FB_auditSegment_16 : decode M_FB_auditSegment.2.1 16 = .ok (.getfield 177, 3) := by decide +kernel
theorem dc_FB_auditSegment_19 : decode M_FB_auditSegment.2.1 19 = .ok (.iload 4, 2) := by decide +kernel
theorem dc_FB_auditSegment_21 : decode M_FB_auditSegment.2.1 21 = .ok (.aaload, 1) := by decide +kernel
theorem dc_FB_auditSegment_22 : decode M_FB_auditSegment.2.1 22 = .ok (.astore 5, 2) := by decide +kernel
theorem dc_FB_auditSegment_24 : decode M_FB_auditSegment.2.1 24 = .ok (.aload_n 0, 1) := by decide +kernel
theorem dc_FB_auditSegment_25 : decode M_FB_auditSegment.2.1 25 = .ok (.aload 5, 2) := by decide +kernel
theorem dc_FB_auditSegment_27 : decode M_FB_auditSegment.2.1 27 = .ok (.getfield 206, 3) := by decide +kernel
theorem dc_FB_auditSegment_30 : decode M_FB_auditSegment.2.1 30 = .ok (.invokevirtual 209, 3) := by decide +kernel
theorem dc_FB_auditSegment_33 : decode M_FB_auditSegment.2.1 33 = .ok (.ifCond .eq 36, 3) := by decide +kernel
theorem dc_FB_auditSegment_36 : decode M_FB_auditSegment.2.1 36 = .ok (.aload 5, 2) := by decide +kernel
theorem dc_FB_auditSegment_38 : decode M_FB_auditSegment.2.1 38 = .ok (.getfield 181, 3) := by decide +kernel
theorem dc_FB_auditSegment_41 : decode M_FB_auditSegment.2.1 41 = .ok (.ifCond .eq 18, 3) := by decide +kernel
theorem dc_FB_auditSegment_44 : decode M_FB_auditSegment.2.1 44 = .ok (.aload_n 0, 1) := by decide +kernel
theorem dc_FB_auditSegment_45 : decode M_FB_auditSegment.2.1 45 = .ok (.aload_n 2, 1) := by decide +kernel
theorem dc_FB_auditSegment_46 : decode M_FB_auditSegment.2.1 46 = .ok (.getfield 232, 3) := by decide +kernel
theorem dc_FB_auditSegment_49 : decode M_FB_auditSegment.2.1 49 = .ok (.iload 4, 2) := by decide +kernel
theorem dc_FB_auditSegment_51 : decode M_FB_auditSegment.2.1 51 = .ok (.aload 5, 2) := by decide +kernel
theorem dc_FB_auditSegment_53 : decode M_FB_auditSegment.2.1 53 = .ok (.invokevirtual 277, 3) := by decide +kernel
theorem km_0_277 : rM 0 277 = some (1, M_FB_isPieceOf) := rM_at (j := 94) (p := 831) (by decide +kernel) rfl
theorem np_FB_isPieceOf : nP M_FB_isPieceOf = 3 := by decide +kernel
theorem dc_FB_auditSegment_56 : decode M_FB_auditSegment.2.1 56 = .ok (.ifCond .ne 13, 3) := by decide +kernel
theorem dc_FB_auditSegment_59 : decode M_FB_auditSegment.2.1 59 = .ok (.aload_n 0, 1) := by decide +kernel
theorem dc_FB_auditSegment_60 : decode M_FB_auditSegment.2.1 60 = .ok (.aload_n 1, 1) := by decide +kernel
theorem dc_FB_auditSegment_61 : decode M_FB_auditSegment.2.1 61 = .ok (.aload 5, 2) := by decide +kernel
theorem dc_FB_auditSegment_63 : decode M_FB_auditSegment.2.1 63 = .ok (.invokevirtual 330, 3) := by decide +kernel
theorem km_0_330 : rM 0 330 = some (1, M_FB_takeBack) := rM_at (j := 95) (p := 835) (by decide +kernel) rfl
theorem np_FB_takeBack : nP M_FB_takeBack = 2 := by decide +kernel
theorem dc_FB_auditSegment_66 : decode M_FB_auditSegment.2.1 66 = .ok (.iinc 3 1, 3) := by decide +kernel
theorem dc_FB_auditSegment_69 : decode M_FB_auditSegment.2.1 69 = .ok (.iinc 4 1, 3) := by decide +kernel
theorem dc_FB_auditSegment_72 : decode M_FB_auditSegment.2.1 72 = .ok (.goto (-67), 3) := by decide +kernel
theorem dc_FB_isPieceOf_0 : decode M_FB_isPieceOf.2.1 0 = .ok (.aload_n 0, 1) := by decide +kernel
theorem dc_FB_isPieceOf_1 : decode M_FB_isPieceOf.2.1 1 = .ok (.getfield 18, 3) := by decide +kernel
theorem dc_FB_isPieceOf_4 : decode M_FB_isPieceOf.2.1 4 = .ok (.aload_n 1, 1) := by decide +kernel
theorem dc_FB_isPieceOf_5 : decode M_FB_isPieceOf.2.1 5 = .ok (.iload_n 2, 1) := by decide +kernel
theorem dc_FB_isPieceOf_6 : decode M_FB_isPieceOf.2.1 6 = .ok (.aload_n 0, 1) := by decide +kernel
theorem dc_FB_isPieceOf_7 : decode M_FB_isPieceOf.2.1 7 = .ok (.getfield 36, 3) := by decide +kernel
theorem dc_FB_isPieceOf_10 : decode M_FB_isPieceOf.2.1 10 = .ok (.invokevirtual 311, 3) := by decide +kernel
theorem dc_FB_isPieceOf_13 : decode M_FB_isPieceOf.2.1 13 = .ok (.iconst 0, 1) := by decide +kernel
theorem dc_FB_isPieceOf_14 : decode M_FB_isPieceOf.2.1 14 = .ok (.istore 4, 2) := by decide +kernel
theorem dc_FB_isPieceOf_16 : decode M_FB_isPieceOf.2.1 16 = .ok (.iload 4, 2) := by decide +kernel
theorem dc_FB_isPieceOf_18 : decode M_FB_isPieceOf.2.1 18 = .ok (.aload_n 3, 1) := by decide +kernel
theorem dc_FB_isPieceOf_19 : decode M_FB_isPieceOf.2.1 19 = .ok (.getfield 186, 3) := by decide +kernel
theorem dc_FB_isPieceOf_22 : decode M_FB_isPieceOf.2.1 22 = .ok (.arraylength, 1) := by decide +kernel
theorem dc_FB_isPieceOf_23 : decode M_FB_isPieceOf.2.1 23 = .ok (.if_icmp .ge 28, 3) := by decide +kernel
theorem dc_FB_isPieceOf_51 : decode M_FB_isPieceOf.2.1 51 = .ok (.iconst 1, 1) := by decide +kernel
theorem dc_FB_isPieceOf_52 : decode M_FB_isPieceOf.2.1 52 = .ok (.ireturn, 1) := by decide +kernel
theorem dc_FB_isPieceOf_26 : decode M_FB_isPieceOf.2.1 26 = .ok (.aload_n 3, 1) := by decide +kernel
theorem dc_FB_isPieceOf_27 : decode M_FB_isPieceOf.2.1 27 = .ok (.getfield 186, 3) := by decide +kernel
theorem dc_FB_isPieceOf_30 : decode M_FB_isPieceOf.2.1 30 = .ok (.iload 4, 2) := by decide +kernel
theorem dc_FB_isPieceOf_32 : decode M_FB_isPieceOf.2.1 32 = .ok (.iaload, 1) := by decide +kernel
theorem dc_FB_isPieceOf_33 : decode M_FB_isPieceOf.2.1 33 = .ok (.aload_n 0, 1) := by decide +kernel
theorem dc_FB_isPieceOf_34 : decode M_FB_isPieceOf.2.1 34 = .ok (.getfield 36, 3) := by decide +kernel
theorem dc_FB_isPieceOf_37 : decode M_FB_isPieceOf.2.1 37 = .ok (.iload 4, 2) := by decide +kernel
theorem dc_FB_isPieceOf_39 : decode M_FB_isPieceOf.2.1 39 = .ok (.iaload, 1) := by decide +kernel
theorem dc_FB_isPieceOf_40 : decode M_FB_isPieceOf.2.1 40 = .ok (.if_icmp .eq 5, 3) := by decide +kernel
theorem dc_FB_isPieceOf_45 : decode M_FB_isPieceOf.2.1 45 = .ok (.iinc 4 1, 3) := by decide +kernel
theorem dc_FB_isPieceOf_48 : decode M_FB_isPieceOf.2.1 48 = .ok (.goto (-32), 3) := by decide +kernel
theorem dc_FB_isPieceOf_43 : decode M_FB_isPieceOf.2.1 43 = .ok (.iconst 0, 1) := by decide +kernel
theorem dc_FB_isPieceOf_44 : decode M_FB_isPieceOf.2.1 44 = .ok (.ireturn, 1) := by decide +kernel
theorem dc_FB_takeBack_0 : decode M_FB_takeBack.2.1 0 = .ok (.aload_n 2, 1) := by decide +kernel
theorem dc_FB_takeBack_1 : decode M_FB_takeBack.2.1 1 = .ok (.getfield 181, 3) := by decide +kernel
theorem dc_FB_takeBack_4 : decode M_FB_takeBack.2.1 4 = .ok (.ifCond .eq 36, 3) := by decide +kernel
theorem dc_FB_takeBack_7 : decode M_FB_takeBack.2.1 7 = .ok (.aload_n 0, 1) := by decide +kernel
theorem dc_FB_takeBack_8 : decode M_FB_takeBack.2.1 8 = .ok (.getfield 11, 3) := by decide +kernel
theorem dc_FB_takeBack_11 : decode M_FB_takeBack.2.1 11 = .ok (.aload_n 2, 1) := by decide +kernel
theorem dc_FB_takeBack_12 : decode M_FB_takeBack.2.1 12 = .ok (.getfield 206, 3) := by decide +kernel
theorem dc_FB_takeBack_15 : decode M_FB_takeBack.2.1 15 = .ok (.aaload, 1) := by decide +kernel
theorem dc_FB_takeBack_16 : decode M_FB_takeBack.2.1 16 = .ok (.ifnull 24, 3) := by decide +kernel
theorem dc_FB_takeBack_19 : decode M_FB_takeBack.2.1 19 = .ok (.aload_n 0, 1) := by decide +kernel
theorem dc_FB_takeBack_20 : decode M_FB_takeBack.2.1 20 = .ok (.getfield 11, 3) := by decide +kernel
theorem dc_FB_takeBack_23 : decode M_FB_takeBack.2.1 23 = .ok (.aload_n 2, 1) := by decide +kernel
theorem dc_FB_takeBack_24 : decode M_FB_takeBack.2.1 24 = .ok (.getfield 206, 3) := by decide +kernel
theorem dc_FB_takeBack_27 : decode M_FB_takeBack.2.1 27 = .ok (.aaload, 1) := by decide +kernel
theorem dc_FB_takeBack_28 : decode M_FB_takeBack.2.1 28 = .ok (.getfield 160, 3) := by decide +kernel
theorem dc_FB_takeBack_31 : decode M_FB_takeBack.2.1 31 = .ok (.aload_n 1, 1) := by decide +kernel
theorem dc_FB_takeBack_32 : decode M_FB_takeBack.2.1 32 = .ok (.getfield 290, 3) := by decide +kernel
theorem dc_FB_takeBack_35 : decode M_FB_takeBack.2.1 35 = .ok (.dup2, 1) := by decide +kernel
theorem dc_FB_takeBack_36 : decode M_FB_takeBack.2.1 36 = .ok (.iaload, 1) := by decide +kernel
theorem dc_FB_takeBack_37 : decode M_FB_takeBack.2.1 37 = .ok (.iconst 1, 1) := by decide +kernel
theorem dc_FB_takeBack_38 : decode M_FB_takeBack.2.1 38 = .ok (.isub, 1) := by decide +kernel
theorem dc_FB_takeBack_39 : decode M_FB_takeBack.2.1 39 = .ok (.iastore, 1) := by decide +kernel
theorem dc_FB_takeBack_40 : decode M_FB_takeBack.2.1 40 = .ok (.aload_n 2, 1) := by decide +kernel
theorem dc_FB_takeBack_41 : decode M_FB_takeBack.2.1 41 = .ok (.iconst 0, 1) := by decide +kernel
theorem dc_FB_takeBack_42 : decode M_FB_takeBack.2.1 42 = .ok (.putfield 181, 3) := by decide +kernel
theorem kp_FB_takeBack_6_3 : fpB M_FB_takeBack 6 3 = true := by decide +kernel
theorem dc_FB_takeBack_45 : decode M_FB_takeBack.2.1 45 = .ok (.aload_n 2, 1) := by decide +kernel
theorem dc_FB_takeBack_46 : decode M_FB_takeBack.2.1 46 = .ok (.iconst (-1), 1) := by decide +kernel
theorem dc_FB_takeBack_47 : decode M_FB_takeBack.2.1 47 = .ok (.putfield 206, 3) := by decide +kernel
theorem kp_FB_takeBack_6_2 : fpB M_FB_takeBack 6 2 = true := by decide +kernel
theorem dc_FB_takeBack_50 : decode M_FB_takeBack.2.1 50 = .ok (.return_, 1) := by decide +kernel
theorem dc_La_repair_0 : decode M_La_repair.2.1 0 = .ok (.aload_n 2, 1) := by decide +kernel
theorem dc_La_repair_1 : decode M_La_repair.2.1 1 = .ok (.iconst 0, 1) := by decide +kernel
theorem dc_La_repair_2 : decode M_La_repair.2.1 2 = .ok (.aload_n 0, 1) := by decide +kernel
theorem dc_La_repair_3 : decode M_La_repair.2.1 3 = .ok (.iload_n 1, 1) := by decide +kernel
theorem dc_La_repair_4 : decode M_La_repair.2.1 4 = .ok (.invokevirtual 61, 3) := by decide +kernel
theorem km_11_61 : rM 11 61 = some (1, M_FB_repair) := rM_at (j := 97) (p := 842) (by decide +kernel) rfl
theorem np_FB_repair : nP M_FB_repair = 1 := by decide +kernel
theorem dc_La_repair_7 : decode M_La_repair.2.1 7 = .ok (.i2l, 1) := by decide +kernel
theorem dc_La_repair_8 : decode M_La_repair.2.1 8 = .ok (.lastore, 1) := by decide +kernel
theorem dc_La_repair_9 : decode M_La_repair.2.1 9 = .ok (.goto 9, 3) := by decide +kernel
theorem dc_La_repair_18 : decode M_La_repair.2.1 18 = .ok (.iconst 0, 1) := by decide +kernel
theorem dc_La_repair_19 : decode M_La_repair.2.1 19 = .ok (.ireturn, 1) := by decide +kernel
theorem dc_La_repair_12 : decode M_La_repair.2.1 12 = .ok (.astore_n 3, 1) := by decide +kernel
theorem dc_La_repair_13 : decode M_La_repair.2.1 13 = .ok (.iconst 1, 1) := by decide +kernel
theorem dc_La_repair_14 : decode M_La_repair.2.1 14 = .ok (.ireturn, 1) := by decide +kernel
theorem dc_La_repair_15 : decode M_La_repair.2.1 15 = .ok (.astore_n 3, 1) := by decide +kernel
theorem dc_La_repair_16 : decode M_La_repair.2.1 16 = .ok (.iconst 2, 1) := by decide +kernel
theorem dc_La_repair_17 : decode M_La_repair.2.1 17 = .ok (.ireturn, 1) := by decide +kernel
theorem dc_FB_repair_0 : decode M_FB_repair.2.1 0 = .ok (.aload_n 0, 1) := by decide +kernel
theorem dc_FB_repair_1 : decode M_FB_repair.2.1 1 = .ok (.iload_n 1, 1) := by decide +kernel
theorem dc_FB_repair_2 : decode M_FB_repair.2.1 2 = .ok (.invokevirtual 60, 3) := by decide +kernel
theorem dc_FB_repair_5 : decode M_FB_repair.2.1 5 = .ok (.astore_n 2, 1) := by decide +kernel
theorem dc_FB_repair_6 : decode M_FB_repair.2.1 6 = .ok (.aload_n 2, 1) := by decide +kernel
theorem dc_FB_repair_7 : decode M_FB_repair.2.1 7 = .ok (.getfield 75, 3) := by decide +kernel
theorem dc_FB_repair_10 : decode M_FB_repair.2.1 10 = .ok (.ifCond .ne 14, 3) := by decide +kernel
theorem dc_FB_repair_13 : decode M_FB_repair.2.1 13 = .ok (.aload_n 2, 1) := by decide +kernel
theorem dc_FB_repair_14 : decode M_FB_repair.2.1 14 = .ok (.getfield 138, 3) := by decide +kernel
theorem dc_FB_repair_17 : decode M_FB_repair.2.1 17 = .ok (.ifCond .eq 7, 3) := by decide +kernel
theorem dc_FB_repair_20 : decode M_FB_repair.2.1 20 = .ok (.iconst 1, 1) := by decide +kernel
theorem dc_FB_repair_21 : decode M_FB_repair.2.1 21 = .ok (.goto 4, 3) := by decide +kernel
theorem dc_FB_repair_24 : decode M_FB_repair.2.1 24 = .ok (.iconst 0, 1) := by decide +kernel
theorem dc_FB_repair_25 : decode M_FB_repair.2.1 25 = .ok (.invokestatic 51, 3) := by decide +kernel
theorem dc_FB_repair_28 : decode M_FB_repair.2.1 28 = .ok (.iconst 0, 1) := by decide +kernel
theorem dc_FB_repair_29 : decode M_FB_repair.2.1 29 = .ok (.istore_n 3, 1) := by decide +kernel
theorem dc_FB_repair_30 : decode M_FB_repair.2.1 30 = .ok (.iconst 0, 1) := by decide +kernel
theorem dc_FB_repair_31 : decode M_FB_repair.2.1 31 = .ok (.istore 4, 2) := by decide +kernel
theorem dc_FB_repair_33 : decode M_FB_repair.2.1 33 = .ok (.iload 4, 2) := by decide +kernel
theorem dc_FB_repair_35 : decode M_FB_repair.2.1 35 = .ok (.aload_n 2, 1) := by decide +kernel
theorem dc_FB_repair_36 : decode M_FB_repair.2.1 36 = .ok (.getfield 141, 3) := by decide +kernel
theorem dc_FB_repair_39 : decode M_FB_repair.2.1 39 = .ok (.invokevirtual 98, 3) := by decide +kernel
theorem dc_FB_repair_42 : decode M_FB_repair.2.1 42 = .ok (.if_icmp .ge 96, 3) := by decide +kernel
theorem dc_FB_repair_138 : decode M_FB_repair.2.1 138 = .ok (.iload_n 3, 1) := by decide +kernel
theorem dc_FB_repair_139 : decode M_FB_repair.2.1 139 = .ok (.ireturn, 1) := by decide +kernel
theorem dc_FB_repair_45 : decode M_FB_repair.2.1 45 = .ok (.aload_n 2, 1) := by decide +kernel
theorem dc_FB_repair_46 : decode M_FB_repair.2.1 46 = .ok (.getfield 141, 3) := by decide +kernel
theorem dc_FB_repair_49 : decode M_FB_repair.2.1 49 = .ok (.iload 4, 2) := by decide +kernel
theorem dc_FB_repair_51 : decode M_FB_repair.2.1 51 = .ok (.invokevirtual 144, 3) := by decide +kernel
theorem dc_FB_repair_54 : decode M_FB_repair.2.1 54 = .ok (.checkcast 148, 3) := by decide +kernel
theorem dc_FB_repair_57 : decode M_FB_repair.2.1 57 = .ok (.astore 5, 2) := by decide +kernel
theorem dc_FB_repair_59 : decode M_FB_repair.2.1 59 = .ok (.aload 5, 2) := by decide +kernel
theorem dc_FB_repair_61 : decode M_FB_repair.2.1 61 = .ok (.getfield 150, 3) := by decide +kernel
theorem dc_FB_repair_64 : decode M_FB_repair.2.1 64 = .ok (.ifCond .ne 44, 3) := by decide +kernel
theorem dc_FB_repair_67 : decode M_FB_repair.2.1 67 = .ok (.aload 5, 2) := by decide +kernel
theorem dc_FB_repair_69 : decode M_FB_repair.2.1 69 = .ok (.getfield 222, 3) := by decide +kernel
theorem dc_FB_repair_72 : decode M_FB_repair.2.1 72 = .ok (.ifCond .ne 36, 3) := by decide +kernel
theorem dc_FB_repair_75 : decode M_FB_repair.2.1 75 = .ok (.aload_n 0, 1) := by decide +kernel
theorem dc_FB_repair_76 : decode M_FB_repair.2.1 76 = .ok (.aload 5, 2) := by decide +kernel
theorem dc_FB_repair_78 : decode M_FB_repair.2.1 78 = .ok (.invokevirtual 225, 3) := by decide +kernel
theorem dc_FB_repair_81 : decode M_FB_repair.2.1 81 = .ok (.aload_n 0, 1) := by decide +kernel
theorem dc_FB_repair_82 : decode M_FB_repair.2.1 82 = .ok (.getfield 18, 3) := by decide +kernel
theorem dc_FB_repair_85 : decode M_FB_repair.2.1 85 = .ok (.getfield 229, 3) := by decide +kernel
theorem kf_0_229 : rF 0 229 = some (2, 3) := by decide +kernel
theorem dc_FB_repair_88 : decode M_FB_repair.2.1 88 = .ok (.if_icmp .lt 20, 3) := by decide +kernel
theorem dc_FB_repair_91 : decode M_FB_repair.2.1 91 = .ok (.aload_n 0, 1) := by decide +kernel
theorem dc_FB_repair_92 : decode M_FB_repair.2.1 92 = .ok (.aload 5, 2) := by decide +kernel
theorem dc_FB_repair_94 : decode M_FB_repair.2.1 94 = .ok (.aload 5, 2) := by decide +kernel
theorem dc_FB_repair_96 : decode M_FB_repair.2.1 96 = .ok (.getfield 232, 3) := by decide +kernel
theorem dc_FB_repair_99 : decode M_FB_repair.2.1 99 = .ok (.invokevirtual 235, 3) := by decide +kernel
theorem km_0_235 : rM 0 235 = some (1, M_FB_solve) := rM_at (j := 98) (p := 846) (by decide +kernel) rfl
theorem np_FB_solve : nP M_FB_solve = 2 := by decide +kernel
theorem dc_FB_repair_102 : decode M_FB_repair.2.1 102 = .ok (.aload 5, 2) := by decide +kernel
theorem dc_FB_repair_104 : decode M_FB_repair.2.1 104 = .ok (.iconst 1, 1) := by decide +kernel
theorem dc_FB_repair_105 : decode M_FB_repair.2.1 105 = .ok (.putfield 150, 3) := by decide +kernel
theorem kp_FB_repair_7_3 : fpB M_FB_repair 7 3 = true := by decide +kernel
theorem dc_FB_repair_108 : decode M_FB_repair.2.1 108 = .ok (.aload 5, 2) := by decide +kernel
theorem dc_FB_repair_110 : decode M_FB_repair.2.1 110 = .ok (.getfield 150, 3) := by decide +kernel
theorem dc_FB_repair_113 : decode M_FB_repair.2.1 113 = .ok (.ifCond .eq 19, 3) := by decide +kernel
theorem dc_FB_repair_116 : decode M_FB_repair.2.1 116 = .ok (.aload_n 0, 1) := by decide +kernel
theorem dc_FB_repair_117 : decode M_FB_repair.2.1 117 = .ok (.aload 5, 2) := by decide +kernel
theorem dc_FB_repair_119 : decode M_FB_repair.2.1 119 = .ok (.invokevirtual 239, 3) := by decide +kernel
theorem km_0_239 : rM 0 239 = some (1, M_FB_unplaceMissing) := rM_at (j := 104) (p := 871) (by decide +kernel) rfl
theorem np_FB_unplaceMissing : nP M_FB_unplaceMissing = 1 := by decide +kernel
theorem dc_FB_repair_122 : decode M_FB_repair.2.1 122 = .ok (.iload_n 3, 1) := by decide +kernel
theorem dc_FB_repair_123 : decode M_FB_repair.2.1 123 = .ok (.aload_n 0, 1) := by decide +kernel
theorem dc_FB_repair_124 : decode M_FB_repair.2.1 124 = .ok (.aload_n 2, 1) := by decide +kernel
theorem dc_FB_repair_125 : decode M_FB_repair.2.1 125 = .ok (.aload 5, 2) := by decide +kernel
theorem dc_FB_repair_127 : decode M_FB_repair.2.1 127 = .ok (.invokevirtual 153, 3) := by decide +kernel
theorem dc_FB_repair_130 : decode M_FB_repair.2.1 130 = .ok (.iadd, 1) := by decide +kernel
theorem dc_FB_repair_131 : decode M_FB_repair.2.1 131 = .ok (.istore_n 3, 1) := by decide +kernel
theorem dc_FB_repair_132 : decode M_FB_repair.2.1 132 = .ok (.iinc 4 1, 3) := by decide +kernel
theorem dc_FB_repair_135 : decode M_FB_repair.2.1 135 = .ok (.goto (-102), 3) := by decide +kernel
theorem dc_FB_solve_0 : decode M_FB_solve.2.1 0 = .ok (.aload_n 0, 1) := by decide +kernel
theorem dc_FB_solve_1 : decode M_FB_solve.2.1 1 = .ok (.getfield 18, 3) := by decide +kernel
theorem dc_FB_solve_4 : decode M_FB_solve.2.1 4 = .ok (.invokevirtual 334, 3) := by decide +kernel
theorem km_0_334 : rM 0 334 = some (1, M_Coder_beginSolving) := rM_at (j := 99) (p := 850) (by decide +kernel) rfl
theorem np_Coder_beginSolving : nP M_Coder_beginSolving = 0 := by decide +kernel
theorem dc_FB_solve_7 : decode M_FB_solve.2.1 7 = .ok (.iconst 0, 1) := by decide +kernel
theorem dc_FB_solve_8 : decode M_FB_solve.2.1 8 = .ok (.istore_n 3, 1) := by decide +kernel
theorem dc_FB_solve_9 : decode M_FB_solve.2.1 9 = .ok (.iload_n 3, 1) := by decide +kernel
theorem dc_FB_solve_10 : decode M_FB_solve.2.1 10 = .ok (.aload_n 1, 1) := by decide +kernel
theorem dc_FB_solve_11 : decode M_FB_solve.2.1 11 = .ok (.getfield 177, 3) := by decide +kernel
theorem dc_FB_solve_14 : decode M_FB_solve.2.1 14 = .ok (.arraylength, 1) := by decide +kernel
theorem dc_FB_solve_15 : decode M_FB_solve.2.1 15 = .ok (.if_icmp .ge 39, 3) := by decide +kernel
theorem dc_FB_solve_54 : decode M_FB_solve.2.1 54 = .ok (.aload_n 0, 1) := by decide +kernel
theorem dc_FB_solve_55 : decode M_FB_solve.2.1 55 = .ok (.getfield 18, 3) := by decide +kernel
theorem dc_FB_solve_58 : decode M_FB_solve.2.1 58 = .ok (.aload_n 2, 1) := by decide +kernel
theorem dc_FB_solve_59 : decode M_FB_solve.2.1 59 = .ok (.invokevirtual 341, 3) := by decide +kernel
theorem km_0_341 : rM 0 341 = some (1, M_Coder_solveInto) := rM_at (j := 101) (p := 859) (by decide +kernel) rfl
theorem np_Coder_solveInto : nP M_Coder_solveInto = 1 := by decide +kernel
theorem dc_FB_solve_18 : decode M_FB_solve.2.1 18 = .ok (.aload_n 0, 1) := by decide +kernel
theorem dc_FB_solve_19 : decode M_FB_solve.2.1 19 = .ok (.aload_n 1, 1) := by decide +kernel
theorem dc_FB_solve_20 : decode M_FB_solve.2.1 20 = .ok (.getfield 177, 3) := by decide +kernel
theorem dc_FB_solve_23 : decode M_FB_solve.2.1 23 = .ok (.iload_n 3, 1) := by decide +kernel
theorem dc_FB_solve_24 : decode M_FB_solve.2.1 24 = .ok (.aaload, 1) := by decide +kernel
theorem dc_FB_solve_25 : decode M_FB_solve.2.1 25 = .ok (.invokevirtual 270, 3) := by decide +kernel
theorem dc_FB_solve_28 : decode M_FB_solve.2.1 28 = .ok (.ifCond .eq 20, 3) := by decide +kernel
theorem dc_FB_solve_31 : decode M_FB_solve.2.1 31 = .ok (.aload_n 0, 1) := by decide +kernel
theorem dc_FB_solve_32 : decode M_FB_solve.2.1 32 = .ok (.getfield 18, 3) := by decide +kernel
theorem dc_FB_solve_35 : decode M_FB_solve.2.1 35 = .ok (.iload_n 3, 1) := by decide +kernel
theorem dc_FB_solve_36 : decode M_FB_solve.2.1 36 = .ok (.aload_n 1, 1) := by decide +kernel
theorem dc_FB_solve_37 : decode M_FB_solve.2.1 37 = .ok (.getfield 177, 3) := by decide +kernel
theorem dc_FB_solve_40 : decode M_FB_solve.2.1 40 = .ok (.iload_n 3, 1) := by decide +kernel
theorem dc_FB_solve_41 : decode M_FB_solve.2.1 41 = .ok (.aaload, 1) := by decide +kernel
theorem dc_FB_solve_42 : decode M_FB_solve.2.1 42 = .ok (.getfield 186, 3) := by decide +kernel
theorem dc_FB_solve_45 : decode M_FB_solve.2.1 45 = .ok (.invokevirtual 337, 3) := by decide +kernel
theorem km_0_337 : rM 0 337 = some (1, M_Coder_take) := rM_at (j := 100) (p := 854) (by decide +kernel) rfl
theorem np_Coder_take : nP M_Coder_take = 2 := by decide +kernel
theorem dc_FB_solve_48 : decode M_FB_solve.2.1 48 = .ok (.iinc 3 1, 3) := by decide +kernel
theorem dc_FB_solve_51 : decode M_FB_solve.2.1 51 = .ok (.goto (-42), 3) := by decide +kernel
theorem dc_FB_solve_62 : decode M_FB_solve.2.1 62 = .ok (.return_, 1) := by decide +kernel
theorem dc_Coder_beginSolving_0 : decode M_Coder_beginSolving.2.1 0 = .ok (.aload_n 0, 1) := by decide +kernel
theorem dc_Coder_beginSolving_1 : decode M_Coder_beginSolving.2.1 1 = .ok (.iconst 0, 1) := by decide +kernel
theorem dc_Coder_beginSolving_2 : decode M_Coder_beginSolving.2.1 2 = .ok (.putfield 48, 3) := by decide +kernel
theorem kf_2_48 : rF 2 48 = some (2, 6) := by decide +kernel
theorem kp_Coder_beginSolving_2_6 : fpB M_Coder_beginSolving 2 6 = true := by decide +kernel
theorem dc_Coder_beginSolving_5 : decode M_Coder_beginSolving.2.1 5 = .ok (.return_, 1) := by decide +kernel
theorem kiI_2_6 {z : Int} : fitB 2 6 (vI z) = true := fi_I (by decide +kernel)
theorem dc_Coder_take_0 : decode M_Coder_take.2.1 0 = .ok (.aload_n 0, 1) := by decide +kernel
theorem dc_Coder_take_1 : decode M_Coder_take.2.1 1 = .ok (.getfield 48, 3) := by decide +kernel
theorem dc_Coder_take_4 : decode M_Coder_take.2.1 4 = .ok (.aload_n 0, 1) := by decide +kernel
theorem dc_Coder_take_5 : decode M_Coder_take.2.1 5 = .ok (.getfield 34, 3) := by decide +kernel
theorem dc_Coder_take_8 : decode M_Coder_take.2.1 8 = .ok (.if_icmp .lt 4, 3) := by decide +kernel
theorem dc_Coder_take_12 : decode M_Coder_take.2.1 12 = .ok (.aload_n 0, 1) := by decide +kernel
theorem dc_Coder_take_13 : decode M_Coder_take.2.1 13 = .ok (.getfield 20, 3) := by decide +kernel
theorem dc_Coder_take_16 : decode M_Coder_take.2.1 16 = .ok (.iload_n 1, 1) := by decide +kernel
theorem dc_Coder_take_17 : decode M_Coder_take.2.1 17 = .ok (.aaload, 1) := by decide +kernel
theorem dc_Coder_take_18 : decode M_Coder_take.2.1 18 = .ok (.iconst 0, 1) := by decide +kernel
theorem dc_Coder_take_19 : decode M_Coder_take.2.1 19 = .ok (.aload_n 0, 1) := by decide +kernel
theorem dc_Coder_take_20 : decode M_Coder_take.2.1 20 = .ok (.getfield 23, 3) := by decide +kernel
theorem dc_Coder_take_23 : decode M_Coder_take.2.1 23 = .ok (.aload_n 0, 1) := by decide +kernel
theorem dc_Coder_take_24 : decode M_Coder_take.2.1 24 = .ok (.getfield 48, 3) := by decide +kernel
theorem dc_Coder_take_27 : decode M_Coder_take.2.1 27 = .ok (.aaload, 1) := by decide +kernel
theorem dc_Coder_take_28 : decode M_Coder_take.2.1 28 = .ok (.iconst 0, 1) := by decide +kernel
theorem dc_Coder_take_29 : decode M_Coder_take.2.1 29 = .ok (.aload_n 0, 1) := by decide +kernel
theorem dc_Coder_take_30 : decode M_Coder_take.2.1 30 = .ok (.getfield 34, 3) := by decide +kernel
theorem dc_Coder_take_33 : decode M_Coder_take.2.1 33 = .ok (.invokestatic 51, 3) := by decide +kernel
theorem km_2_51 : rM 2 51 = some (4, M_FB_init) := rM_at (j := 0) (p := 858) (by decide +kernel) rfl
theorem dc_Coder_take_36 : decode M_Coder_take.2.1 36 = .ok (.aload_n 2, 1) := by decide +kernel
theorem dc_Coder_take_37 : decode M_Coder_take.2.1 37 = .ok (.iconst 0, 1) := by decide +kernel
theorem dc_Coder_take_38 : decode M_Coder_take.2.1 38 = .ok (.aload_n 0, 1) := by decide +kernel
theorem dc_Coder_take_39 : decode M_Coder_take.2.1 39 = .ok (.getfield 23, 3) := by decide +kernel
theorem dc_Coder_take_42 : decode M_Coder_take.2.1 42 = .ok (.aload_n 0, 1) := by decide +kernel
theorem dc_Coder_take_43 : decode M_Coder_take.2.1 43 = .ok (.getfield 48, 3) := by decide +kernel
theorem dc_Coder_take_46 : decode M_Coder_take.2.1 46 = .ok (.aaload, 1) := by decide +kernel
theorem dc_Coder_take_47 : decode M_Coder_take.2.1 47 = .ok (.aload_n 0, 1) := by decide +kernel
theorem dc_Coder_take_48 : decode M_Coder_take.2.1 48 = .ok (.getfield 34, 3) := by decide +kernel
theorem dc_Coder_take_51 : decode M_Coder_take.2.1 51 = .ok (.aload_n 0, 1) := by decide +kernel
theorem dc_Coder_take_52 : decode M_Coder_take.2.1 52 = .ok (.getfield 41, 3) := by decide +kernel
theorem dc_Coder_take_55 : decode M_Coder_take.2.1 55 = .ok (.invokestatic 51, 3) := by decide +kernel
theorem dc_Coder_take_58 : decode M_Coder_take.2.1 58 = .ok (.aload_n 0, 1) := by decide +kernel
theorem dc_Coder_take_59 : decode M_Coder_take.2.1 59 = .ok (.dup, 1) := by decide +kernel
theorem dc_Coder_take_60 : decode M_Coder_take.2.1 60 = .ok (.getfield 48, 3) := by decide +kernel
theorem dc_Coder_take_63 : decode M_Coder_take.2.1 63 = .ok (.iconst 1, 1) := by decide +kernel
theorem dc_Coder_take_64 : decode M_Coder_take.2.1 64 = .ok (.iadd, 1) := by decide +kernel
theorem dc_Coder_take_65 : decode M_Coder_take.2.1 65 = .ok (.putfield 48, 3) := by decide +kernel
theorem kp_Coder_take_2_6 : fpB M_Coder_take 2 6 = true := by decide +kernel
theorem dc_Coder_take_68 : decode M_Coder_take.2.1 68 = .ok (.return_, 1) := by decide +kernel
theorem dc_Coder_take_11 : decode M_Coder_take.2.1 11 = .ok (.return_, 1) := by decide +kernel
theorem dc_Coder_solveInto_0 : decode M_Coder_solveInto.2.1 0 = .ok (.iconst 0, 1) := by decide +kernel
theorem dc_Coder_solveInto_1 : decode M_Coder_solveInto.2.1 1 = .ok (.istore_n 2, 1) := by decide +kernel
theorem dc_Coder_solveInto_2 : decode M_Coder_solveInto.2.1 2 = .ok (.iload_n 2, 1) := by decide +kernel
theorem dc_Coder_solveInto_3 : decode M_Coder_solveInto.2.1 3 = .ok (.aload_n 0, 1) := by decide +kernel
theorem dc_Coder_solveInto_4 : decode M_Coder_solveInto.2.1 4 = .ok (.getfield 34, 3) := by decide +kernel
theorem dc_Coder_solveInto_7 : decode M_Coder_solveInto.2.1 7 = .ok (.if_icmp .ge 58, 3) := by decide +kernel
theorem dc_Coder_solveInto_65 : decode M_Coder_solveInto.2.1 65 = .ok (.iconst 0, 1) := by decide +kernel
theorem dc_Coder_solveInto_66 : decode M_Coder_solveInto.2.1 66 = .ok (.istore_n 2, 1) := by decide +kernel
theorem dc_Coder_solveInto_10 : decode M_Coder_solveInto.2.1 10 = .ok (.aload_n 0, 1) := by decide +kernel
theorem dc_Coder_solveInto_11 : decode M_Coder_solveInto.2.1 11 = .ok (.aload_n 0, 1) := by decide +kernel
theorem dc_Coder_solveInto_12 : decode M_Coder_solveInto.2.1 12 = .ok (.getfield 23, 3) := by decide +kernel
theorem dc_Coder_solveInto_15 : decode M_Coder_solveInto.2.1 15 = .ok (.iload_n 2, 1) := by decide +kernel
theorem dc_Coder_solveInto_16 : decode M_Coder_solveInto.2.1 16 = .ok (.aaload, 1) := by decide +kernel
theorem dc_Coder_solveInto_17 : decode M_Coder_solveInto.2.1 17 = .ok (.iload_n 2, 1) := by decide +kernel
theorem dc_Coder_solveInto_18 : decode M_Coder_solveInto.2.1 18 = .ok (.invokevirtual 57, 3) := by decide +kernel
theorem km_2_57 : rM 2 57 = some (1, M_Coder_scale) := rM_at (j := 102) (p := 863) (by decide +kernel) rfl
theorem np_Coder_scale : nP M_Coder_scale = 2 := by decide +kernel
theorem dc_Coder_solveInto_21 : decode M_Coder_solveInto.2.1 21 = .ok (.iconst 0, 1) := by decide +kernel
theorem dc_Coder_solveInto_22 : decode M_Coder_solveInto.2.1 22 = .ok (.istore_n 3, 1) := by decide +kernel
theorem dc_Coder_solveInto_23 : decode M_Coder_solveInto.2.1 23 = .ok (.iload_n 3, 1) := by decide +kernel
theorem dc_Coder_solveInto_24 : decode M_Coder_solveInto.2.1 24 = .ok (.aload_n 0, 1) := by decide +kernel
theorem dc_Coder_solveInto_25 : decode M_Coder_solveInto.2.1 25 = .ok (.getfield 34, 3) := by decide +kernel
theorem dc_Coder_solveInto_28 : decode M_Coder_solveInto.2.1 28 = .ok (.if_icmp .ge 31, 3) := by decide +kernel
theorem dc_Coder_solveInto_59 : decode M_Coder_solveInto.2.1 59 = .ok (.iinc 2 1, 3) := by decide +kernel
theorem dc_Coder_solveInto_62 : decode M_Coder_solveInto.2.1 62 = .ok (.goto (-60), 3) := by decide +kernel
theorem dc_Coder_solveInto_31 : decode M_Coder_solveInto.2.1 31 = .ok (.iload_n 3, 1) := by decide +kernel
theorem dc_Coder_solveInto_32 : decode M_Coder_solveInto.2.1 32 = .ok (.iload_n 2, 1) := by decide +kernel
theorem dc_Coder_solveInto_33 : decode M_Coder_solveInto.2.1 33 = .ok (.if_icmp .eq 20, 3) := by decide +kernel
theorem dc_Coder_solveInto_36 : decode M_Coder_solveInto.2.1 36 = .ok (.aload_n 0, 1) := by decide +kernel
theorem dc_Coder_solveInto_37 : decode M_Coder_solveInto.2.1 37 = .ok (.aload_n 0, 1) := by decide +kernel
theorem dc_Coder_solveInto_38 : decode M_Coder_solveInto.2.1 38 = .ok (.getfield 23, 3) := by decide +kernel
theorem dc_Coder_solveInto_41 : decode M_Coder_solveInto.2.1 41 = .ok (.iload_n 3, 1) := by decide +kernel
theorem dc_Coder_solveInto_42 : decode M_Coder_solveInto.2.1 42 = .ok (.aaload, 1) := by decide +kernel
theorem dc_Coder_solveInto_43 : decode M_Coder_solveInto.2.1 43 = .ok (.aload_n 0, 1) := by decide +kernel
theorem dc_Coder_solveInto_44 : decode M_Coder_solveInto.2.1 44 = .ok (.getfield 23, 3) := by decide +kernel
theorem dc_Coder_solveInto_47 : decode M_Coder_solveInto.2.1 47 = .ok (.iload_n 2, 1) := by decide +kernel
theorem dc_Coder_solveInto_48 : decode M_Coder_solveInto.2.1 48 = .ok (.aaload, 1) := by decide +kernel
theorem dc_Coder_solveInto_49 : decode M_Coder_solveInto.2.1 49 = .ok (.iload_n 2, 1) := by decide +kernel
theorem dc_Coder_solveInto_50 : decode M_Coder_solveInto.2.1 50 = .ok (.invokevirtual 61, 3) := by decide +kernel
theorem km_2_61 : rM 2 61 = some (1, M_Coder_clearColumn) := rM_at (j := 103) (p := 867) (by decide +kernel) rfl
theorem np_Coder_clearColumn : nP M_Coder_clearColumn = 3 := by decide +kernel
theorem dc_Coder_solveInto_53 : decode M_Coder_solveInto.2.1 53 = .ok (.iinc 3 1, 3) := by decide +kernel
theorem dc_Coder_solveInto_56 : decode M_Coder_solveInto.2.1 56 = .ok (.goto (-33), 3) := by decide +kernel
theorem dc_Coder_solveInto_67 : decode M_Coder_solveInto.2.1 67 = .ok (.iload_n 2, 1) := by decide +kernel
theorem dc_Coder_solveInto_68 : decode M_Coder_solveInto.2.1 68 = .ok (.aload_n 0, 1) := by decide +kernel
theorem dc_Coder_solveInto_69 : decode M_Coder_solveInto.2.1 69 = .ok (.getfield 34, 3) := by decide +kernel
theorem dc_Coder_solveInto_72 : decode M_Coder_solveInto.2.1 72 = .ok (.if_icmp .ge 33, 3) := by decide +kernel
theorem dc_Coder_solveInto_105 : decode M_Coder_solveInto.2.1 105 = .ok (.return_, 1) := by decide +kernel
theorem dc_Coder_solveInto_75 : decode M_Coder_solveInto.2.1 75 = .ok (.aload_n 0, 1) := by decide +kernel
theorem dc_Coder_solveInto_76 : decode M_Coder_solveInto.2.1 76 = .ok (.getfield 23, 3) := by decide +kernel
theorem dc_Coder_solveInto_79 : decode M_Coder_solveInto.2.1 79 = .ok (.iload_n 2, 1) := by decide +kernel
theorem dc_Coder_solveInto_80 : decode M_Coder_solveInto.2.1 80 = .ok (.aaload, 1) := by decide +kernel
theorem dc_Coder_solveInto_81 : decode M_Coder_solveInto.2.1 81 = .ok (.aload_n 0, 1) := by decide +kernel
theorem dc_Coder_solveInto_82 : decode M_Coder_solveInto.2.1 82 = .ok (.getfield 34, 3) := by decide +kernel
theorem dc_Coder_solveInto_85 : decode M_Coder_solveInto.2.1 85 = .ok (.aload_n 1, 1) := by decide +kernel
theorem dc_Coder_solveInto_86 : decode M_Coder_solveInto.2.1 86 = .ok (.iload_n 2, 1) := by decide +kernel
theorem dc_Coder_solveInto_87 : decode M_Coder_solveInto.2.1 87 = .ok (.aload_n 0, 1) := by decide +kernel
theorem dc_Coder_solveInto_88 : decode M_Coder_solveInto.2.1 88 = .ok (.getfield 41, 3) := by decide +kernel
theorem dc_Coder_solveInto_91 : decode M_Coder_solveInto.2.1 91 = .ok (.imul, 1) := by decide +kernel
theorem dc_Coder_solveInto_92 : decode M_Coder_solveInto.2.1 92 = .ok (.aload_n 0, 1) := by decide +kernel
theorem dc_Coder_solveInto_93 : decode M_Coder_solveInto.2.1 93 = .ok (.getfield 41, 3) := by decide +kernel
theorem dc_Coder_solveInto_96 : decode M_Coder_solveInto.2.1 96 = .ok (.invokestatic 51, 3) := by decide +kernel
theorem dc_Coder_solveInto_99 : decode M_Coder_solveInto.2.1 99 = .ok (.iinc 2 1, 3) := by decide +kernel
theorem dc_Coder_solveInto_102 : decode M_Coder_solveInto.2.1 102 = .ok (.goto (-35), 3) := by decide +kernel
theorem dc_Coder_scale_0 : decode M_Coder_scale.2.1 0 = .ok (.aload_n 0, 1) := by decide +kernel
theorem dc_Coder_scale_1 : decode M_Coder_scale.2.1 1 = .ok (.getfield 12, 3) := by decide +kernel
theorem dc_Coder_scale_4 : decode M_Coder_scale.2.1 4 = .ok (.aload_n 1, 1) := by decide +kernel
theorem dc_Coder_scale_5 : decode M_Coder_scale.2.1 5 = .ok (.iload_n 2, 1) := by decide +kernel
theorem dc_Coder_scale_6 : decode M_Coder_scale.2.1 6 = .ok (.iaload, 1) := by decide +kernel
theorem dc_Coder_scale_7 : decode M_Coder_scale.2.1 7 = .ok (.invokevirtual 26, 3) := by decide +kernel
theorem dc_Coder_scale_10 : decode M_Coder_scale.2.1 10 = .ok (.istore_n 3, 1) := by decide +kernel
theorem dc_Coder_scale_11 : decode M_Coder_scale.2.1 11 = .ok (.iload_n 2, 1) := by decide +kernel
theorem dc_Coder_scale_12 : decode M_Coder_scale.2.1 12 = .ok (.istore 4, 2) := by decide +kernel
theorem dc_Coder_scale_14 : decode M_Coder_scale.2.1 14 = .ok (.iload 4, 2) := by decide +kernel
theorem dc_Coder_scale_16 : decode M_Coder_scale.2.1 16 = .ok (.aload_n 0, 1) := by decide +kernel
theorem dc_Coder_scale_17 : decode M_Coder_scale.2.1 17 = .ok (.getfield 34, 3) := by decide +kernel
theorem dc_Coder_scale_20 : decode M_Coder_scale.2.1 20 = .ok (.aload_n 0, 1) := by decide +kernel
theorem dc_Coder_scale_21 : decode M_Coder_scale.2.1 21 = .ok (.getfield 41, 3) := by decide +kernel
theorem dc_Coder_scale_24 : decode M_Coder_scale.2.1 24 = .ok (.iadd, 1) := by decide +kernel
theorem dc_Coder_scale_25 : decode M_Coder_scale.2.1 25 = .ok (.if_icmp .ge 25, 3) := by decide +kernel
theorem dc_Coder_scale_50 : decode M_Coder_scale.2.1 50 = .ok (.return_, 1) := by decide +kernel
theorem dc_Coder_scale_28 : decode M_Coder_scale.2.1 28 = .ok (.aload_n 1, 1) := by decide +kernel
theorem dc_Coder_scale_29 : decode M_Coder_scale.2.1 29 = .ok (.iload 4, 2) := by decide +kernel
theorem dc_Coder_scale_31 : decode M_Coder_scale.2.1 31 = .ok (.aload_n 0, 1) := by decide +kernel
theorem dc_Coder_scale_32 : decode M_Coder_scale.2.1 32 = .ok (.getfield 12, 3) := by decide +kernel
theorem dc_Coder_scale_35 : decode M_Coder_scale.2.1 35 = .ok (.iload_n 3, 1) := by decide +kernel
theorem dc_Coder_scale_36 : decode M_Coder_scale.2.1 36 = .ok (.aload_n 1, 1) := by decide +kernel
theorem dc_Coder_scale_37 : decode M_Coder_scale.2.1 37 = .ok (.iload 4, 2) := by decide +kernel
theorem dc_Coder_scale_39 : decode M_Coder_scale.2.1 39 = .ok (.iaload, 1) := by decide +kernel
theorem dc_Coder_scale_40 : decode M_Coder_scale.2.1 40 = .ok (.invokevirtual 44, 3) := by decide +kernel
theorem dc_Coder_scale_43 : decode M_Coder_scale.2.1 43 = .ok (.iastore, 1) := by decide +kernel
theorem dc_Coder_scale_44 : decode M_Coder_scale.2.1 44 = .ok (.iinc 4 1, 3) := by decide +kernel
theorem dc_Coder_scale_47 : decode M_Coder_scale.2.1 47 = .ok (.goto (-33), 3) := by decide +kernel
theorem dc_Coder_clearColumn_0 : decode M_Coder_clearColumn.2.1 0 = .ok (.aload_n 1, 1) := by decide +kernel
theorem dc_Coder_clearColumn_1 : decode M_Coder_clearColumn.2.1 1 = .ok (.iload_n 3, 1) := by decide +kernel
theorem dc_Coder_clearColumn_2 : decode M_Coder_clearColumn.2.1 2 = .ok (.iaload, 1) := by decide +kernel
theorem dc_Coder_clearColumn_3 : decode M_Coder_clearColumn.2.1 3 = .ok (.istore 4, 2) := by decide +kernel
theorem dc_Coder_clearColumn_5 : decode M_Coder_clearColumn.2.1 5 = .ok (.iload_n 3, 1) := by decide +kernel
theorem dc_Coder_clearColumn_6 : decode M_Coder_clearColumn.2.1 6 = .ok (.istore 5, 2) := by decide +kernel
theorem dc_Coder_clearColumn_8 : decode M_Coder_clearColumn.2.1 8 = .ok (.iload 5, 2) := by decide +kernel
theorem dc_Coder_clearColumn_10 : decode M_Coder_clearColumn.2.1 10 = .ok (.aload_n 0, 1) := by decide +kernel
theorem dc_Coder_clearColumn_11 : decode M_Coder_clearColumn.2.1 11 = .ok (.getfield 34, 3) := by decide +kernel
theorem dc_Coder_clearColumn_14 : decode M_Coder_clearColumn.2.1 14 = .ok (.aload_n 0, 1) := by decide +kernel
theorem dc_Coder_clearColumn_15 : decode M_Coder_clearColumn.2.1 15 = .ok (.getfield 41, 3) := by decide +kernel
theorem dc_Coder_clearColumn_18 : decode M_Coder_clearColumn.2.1 18 = .ok (.iadd, 1) := by decide +kernel
theorem dc_Coder_clearColumn_19 : decode M_Coder_clearColumn.2.1 19 = .ok (.if_icmp .ge 29, 3) := by decide +kernel
theorem dc_Coder_clearColumn_48 : decode M_Coder_clearColumn.2.1 48 = .ok (.return_, 1) := by decide +kernel
theorem dc_Coder_clearColumn_22 : decode M_Coder_clearColumn.2.1 22 = .ok (.aload_n 1, 1) := by decide +kernel
theorem dc_Coder_clearColumn_23 : decode M_Coder_clearColumn.2.1 23 = .ok (.iload 5, 2) := by decide +kernel
theorem dc_Coder_clearColumn_25 : decode M_Coder_clearColumn.2.1 25 = .ok (.dup2, 1) := by decide +kernel
theorem dc_Coder_clearColumn_26 : decode M_Coder_clearColumn.2.1 26 = .ok (.iaload, 1) := by decide +kernel
theorem dc_Coder_clearColumn_27 : decode M_Coder_clearColumn.2.1 27 = .ok (.aload_n 0, 1) := by decide +kernel
theorem dc_Coder_clearColumn_28 : decode M_Coder_clearColumn.2.1 28 = .ok (.getfield 12, 3) := by decide +kernel
theorem dc_Coder_clearColumn_31 : decode M_Coder_clearColumn.2.1 31 = .ok (.iload 4, 2) := by decide +kernel
theorem dc_Coder_clearColumn_33 : decode M_Coder_clearColumn.2.1 33 = .ok (.aload_n 2, 1) := by decide +kernel
theorem dc_Coder_clearColumn_34 : decode M_Coder_clearColumn.2.1 34 = .ok (.iload 5, 2) := by decide +kernel
theorem dc_Coder_clearColumn_36 : decode M_Coder_clearColumn.2.1 36 = .ok (.iaload, 1) := by decide +kernel
theorem dc_Coder_clearColumn_37 : decode M_Coder_clearColumn.2.1 37 = .ok (.invokevirtual 44, 3) := by decide +kernel
theorem dc_Coder_clearColumn_40 : decode M_Coder_clearColumn.2.1 40 = .ok (.ixor, 1) := by decide +kernel
theorem dc_Coder_clearColumn_41 : decode M_Coder_clearColumn.2.1 41 = .ok (.iastore, 1) := by decide +kernel
theorem dc_Coder_clearColumn_42 : decode M_Coder_clearColumn.2.1 42 = .ok (.iinc 5 1, 3) := by decide +kernel
theorem dc_Coder_clearColumn_45 : decode M_Coder_clearColumn.2.1 45 = .ok (.goto (-37), 3) := by decide +kernel
theorem dc_FB_unplaceMissing_0 : decode M_FB_unplaceMissing.2.1 0 = .ok (.iconst 0, 1) := by decide +kernel
theorem dc_FB_unplaceMissing_1 : decode M_FB_unplaceMissing.2.1 1 = .ok (.istore_n 2, 1) := by decide +kernel
theorem dc_FB_unplaceMissing_2 : decode M_FB_unplaceMissing.2.1 2 = .ok (.iload_n 2, 1) := by decide +kernel
theorem dc_FB_unplaceMissing_3 : decode M_FB_unplaceMissing.2.1 3 = .ok (.aload_n 1, 1) := by decide +kernel
theorem dc_FB_unplaceMissing_4 : decode M_FB_unplaceMissing.2.1 4 = .ok (.getfield 177, 3) := by decide +kernel
theorem dc_FB_unplaceMissing_7 : decode M_FB_unplaceMissing.2.1 7 = .ok (.arraylength, 1) := by decide +kernel
theorem dc_FB_unplaceMissing_8 : decode M_FB_unplaceMissing.2.1 8 = .ok (.if_icmp .ge 39, 3) := by decide +kernel
theorem dc_FB_unplaceMissing_47 : decode M_FB_unplaceMissing.2.1 47 = .ok (.return_, 1) := by decide +kernel
theorem dc_FB_unplaceMissing_11 : decode M_FB_unplaceMissing.2.1 11 = .ok (.aload_n 1, 1) := by decide +kernel
theorem dc_FB_unplaceMissing_12 : decode M_FB_unplaceMissing.2.1 12 = .ok (.getfield 177, 3) := by decide +kernel
theorem dc_FB_unplaceMissing_15 : decode M_FB_unplaceMissing.2.1 15 = .ok (.iload_n 2, 1) := by decide +kernel
theorem dc_FB_unplaceMissing_16 : decode M_FB_unplaceMissing.2.1 16 = .ok (.aaload, 1) := by decide +kernel
theorem dc_FB_unplaceMissing_17 : decode M_FB_unplaceMissing.2.1 17 = .ok (.astore_n 3, 1) := by decide +kernel
theorem dc_FB_unplaceMissing_18 : decode M_FB_unplaceMissing.2.1 18 = .ok (.aload_n 0, 1) := by decide +kernel
theorem dc_FB_unplaceMissing_19 : decode M_FB_unplaceMissing.2.1 19 = .ok (.aload_n 3, 1) := by decide +kernel
theorem dc_FB_unplaceMissing_20 : decode M_FB_unplaceMissing.2.1 20 = .ok (.getfield 206, 3) := by decide +kernel
theorem dc_FB_unplaceMissing_23 : decode M_FB_unplaceMissing.2.1 23 = .ok (.invokevirtual 209, 3) := by decide +kernel
theorem dc_FB_unplaceMissing_26 : decode M_FB_unplaceMissing.2.1 26 = .ok (.ifCond .eq 15, 3) := by decide +kernel
theorem dc_FB_unplaceMissing_29 : decode M_FB_unplaceMissing.2.1 29 = .ok (.aload_n 3, 1) := by decide +kernel
theorem dc_FB_unplaceMissing_30 : decode M_FB_unplaceMissing.2.1 30 = .ok (.getfield 181, 3) := by decide +kernel
theorem dc_FB_unplaceMissing_33 : decode M_FB_unplaceMissing.2.1 33 = .ok (.ifCond .ne 8, 3) := by decide +kernel
theorem dc_FB_unplaceMissing_36 : decode M_FB_unplaceMissing.2.1 36 = .ok (.aload_n 3, 1) := by decide +kernel
theorem dc_FB_unplaceMissing_37 : decode M_FB_unplaceMissing.2.1 37 = .ok (.iconst (-1), 1) := by decide +kernel
theorem dc_FB_unplaceMissing_38 : decode M_FB_unplaceMissing.2.1 38 = .ok (.putfield 206, 3) := by decide +kernel
theorem kp_FB_unplaceMissing_6_2 : fpB M_FB_unplaceMissing 6 2 = true := by decide +kernel
theorem dc_FB_unplaceMissing_41 : decode M_FB_unplaceMissing.2.1 41 = .ok (.iinc 2 1, 3) := by decide +kernel
theorem dc_FB_unplaceMissing_44 : decode M_FB_unplaceMissing.2.1 44 = .ok (.goto (-42), 3) := by decide +kernel
theorem dc_La_restore_0 : decode M_La_restore.2.1 0 = .ok (.aload 4, 2) := by decide +kernel
theorem dc_La_restore_2 : decode M_La_restore.2.1 2 = .ok (.iconst 0, 1) := by decide +kernel
theorem dc_La_restore_3 : decode M_La_restore.2.1 3 = .ok (.aload_n 0, 1) := by decide +kernel
theorem dc_La_restore_4 : decode M_La_restore.2.1 4 = .ok (.iload_n 1, 1) := by decide +kernel
theorem dc_La_restore_5 : decode M_La_restore.2.1 5 = .ok (.iload_n 2, 1) := by decide +kernel
theorem dc_La_restore_6 : decode M_La_restore.2.1 6 = .ok (.iload_n 3, 1) := by decide +kernel
theorem dc_La_restore_7 : decode M_La_restore.2.1 7 = .ok (.invokevirtual 64, 3) := by decide +kernel
theorem km_11_64 : rM 11 64 = some (1, M_FB_restore) := rM_at (j := 106) (p := 878) (by decide +kernel) rfl
theorem np_FB_restore : nP M_FB_restore = 3 := by decide +kernel
theorem dc_La_restore_10 : decode M_La_restore.2.1 10 = .ok (.i2l, 1) := by decide +kernel
theorem dc_La_restore_11 : decode M_La_restore.2.1 11 = .ok (.lastore, 1) := by decide +kernel
theorem dc_La_restore_12 : decode M_La_restore.2.1 12 = .ok (.goto 11, 3) := by decide +kernel
theorem dc_La_restore_23 : decode M_La_restore.2.1 23 = .ok (.iconst 0, 1) := by decide +kernel
theorem dc_La_restore_24 : decode M_La_restore.2.1 24 = .ok (.ireturn, 1) := by decide +kernel
theorem dc_La_restore_15 : decode M_La_restore.2.1 15 = .ok (.astore 5, 2) := by decide +kernel
theorem dc_La_restore_17 : decode M_La_restore.2.1 17 = .ok (.iconst 1, 1) := by decide +kernel
theorem dc_La_restore_18 : decode M_La_restore.2.1 18 = .ok (.ireturn, 1) := by decide +kernel
theorem dc_La_restore_19 : decode M_La_restore.2.1 19 = .ok (.astore 5, 2) := by decide +kernel
theorem dc_La_restore_21 : decode M_La_restore.2.1 21 = .ok (.iconst 2, 1) := by decide +kernel
theorem dc_La_restore_22 : decode M_La_restore.2.1 22 = .ok (.ireturn, 1) := by decide +kernel
theorem dc_FB_restore_0 : decode M_FB_restore.2.1 0 = .ok (.aload_n 0, 1) := by decide +kernel
theorem dc_FB_restore_1 : decode M_FB_restore.2.1 1 = .ok (.iload_n 1, 1) := by decide +kernel
theorem dc_FB_restore_2 : decode M_FB_restore.2.1 2 = .ok (.invokevirtual 60, 3) := by decide +kernel
theorem dc_FB_restore_5 : decode M_FB_restore.2.1 5 = .ok (.astore 4, 2) := by decide +kernel
theorem dc_FB_restore_7 : decode M_FB_restore.2.1 7 = .ok (.aload 4, 2) := by decide +kernel
theorem dc_FB_restore_9 : decode M_FB_restore.2.1 9 = .ok (.iload_n 2, 1) := by decide +kernel
theorem dc_FB_restore_10 : decode M_FB_restore.2.1 10 = .ok (.invokestatic 243, 3) := by decide +kernel
theorem km_0_243 : rM 0 243 = some (0, M_FB_snapshotOf) := rM_at (j := 107) (p := 882) (by decide +kernel) rfl
theorem np_FB_snapshotOf : nP M_FB_snapshotOf = 2 := by decide +kernel
theorem dc_FB_restore_13 : decode M_FB_restore.2.1 13 = .ok (.astore 5, 2) := by decide +kernel
theorem dc_FB_restore_15 : decode M_FB_restore.2.1 15 = .ok (.iload_n 3, 1) := by decide +kernel
theorem dc_FB_restore_16 : decode M_FB_restore.2.1 16 = .ok (.invokestatic 71, 3) := by decide +kernel
theorem dc_FB_restore_19 : decode M_FB_restore.2.1 19 = .ok (.ifCond .eq 17, 3) := by decide +kernel
theorem dc_FB_restore_22 : decode M_FB_restore.2.1 22 = .ok (.aload 5, 2) := by decide +kernel
theorem dc_FB_restore_24 : decode M_FB_restore.2.1 24 = .ok (.getfield 247, 3) := by decide +kernel
theorem kf_0_247 : rF 0 247 = some (8, 2) := by decide +kernel
theorem dc_FB_restore_27 : decode M_FB_restore.2.1 27 = .ok (.iload_n 3, 1) := by decide +kernel
theorem dc_FB_restore_28 : decode M_FB_restore.2.1 28 = .ok (.baload, 1) := by decide +kernel
theorem dc_FB_restore_29 : decode M_FB_restore.2.1 29 = .ok (.ifCond .eq 7, 3) := by decide +kernel
theorem dc_FB_restore_32 : decode M_FB_restore.2.1 32 = .ok (.iconst 1, 1) := by decide +kernel
theorem dc_FB_restore_33 : decode M_FB_restore.2.1 33 = .ok (.goto 4, 3) := by decide +kernel
theorem dc_FB_restore_36 : decode M_FB_restore.2.1 36 = .ok (.iconst 0, 1) := by decide +kernel
theorem dc_FB_restore_37 : decode M_FB_restore.2.1 37 = .ok (.invokestatic 43, 3) := by decide +kernel
theorem dc_FB_restore_40 : decode M_FB_restore.2.1 40 = .ok (.aload 4, 2) := by decide +kernel
theorem dc_FB_restore_42 : decode M_FB_restore.2.1 42 = .ok (.getfield 75, 3) := by decide +kernel
theorem dc_FB_restore_45 : decode M_FB_restore.2.1 45 = .ok (.ifCond .ne 7, 3) := by decide +kernel
theorem dc_FB_restore_52 : decode M_FB_restore.2.1 52 = .ok (.iconst 0, 1) := by decide +kernel
theorem dc_FB_restore_48 : decode M_FB_restore.2.1 48 = .ok (.iconst 1, 1) := by decide +kernel
theorem dc_FB_restore_49 : decode M_FB_restore.2.1 49 = .ok (.goto 4, 3) := by decide +kernel
theorem dc_FB_restore_53 : decode M_FB_restore.2.1 53 = .ok (.invokestatic 51, 3) := by decide +kernel
theorem dc_FB_restore_56 : decode M_FB_restore.2.1 56 = .ok (.aload_n 0, 1) := by decide +kernel
theorem dc_FB_restore_57 : decode M_FB_restore.2.1 57 = .ok (.aload 4, 2) := by decide +kernel
theorem dc_FB_restore_59 : decode M_FB_restore.2.1 59 = .ok (.aload 5, 2) := by decide +kernel
theorem dc_FB_restore_61 : decode M_FB_restore.2.1 61 = .ok (.iload_n 3, 1) := by decide +kernel
theorem dc_FB_restore_62 : decode M_FB_restore.2.1 62 = .ok (.invokevirtual 250, 3) := by decide +kernel
theorem km_0_250 : rM 0 250 = some (1, M_FB_canRestore) := rM_at (j := 108) (p := 885) (by decide +kernel) rfl
theorem np_FB_canRestore : nP M_FB_canRestore = 3 := by decide +kernel
theorem dc_FB_restore_65 : decode M_FB_restore.2.1 65 = .ok (.ifCond .ne 5, 3) := by decide +kernel
theorem dc_FB_restore_70 : decode M_FB_restore.2.1 70 = .ok (.aload_n 0, 1) := by decide +kernel
theorem dc_FB_restore_71 : decode M_FB_restore.2.1 71 = .ok (.aload 4, 2) := by decide +kernel
theorem dc_FB_restore_73 : decode M_FB_restore.2.1 73 = .ok (.aload 5, 2) := by decide +kernel
theorem dc_FB_restore_75 : decode M_FB_restore.2.1 75 = .ok (.iload_n 3, 1) := by decide +kernel
theorem dc_FB_restore_76 : decode M_FB_restore.2.1 76 = .ok (.invokevirtual 254, 3) := by decide +kernel
theorem km_0_254 : rM 0 254 = some (1, M_FB_restoreFile) := rM_at (j := 109) (p := 889) (by decide +kernel) rfl
theorem np_FB_restoreFile : nP M_FB_restoreFile = 3 := by decide +kernel
theorem dc_FB_restore_68 : decode M_FB_restore.2.1 68 = .ok (.iconst (-1), 1) := by decide +kernel
theorem dc_FB_restore_69 : decode M_FB_restore.2.1 69 = .ok (.ireturn, 1) := by decide +kernel
theorem dc_FB_restore_79 : decode M_FB_restore.2.1 79 = .ok (.aload_n 0, 1) := by decide +kernel
theorem dc_FB_restore_80 : decode M_FB_restore.2.1 80 = .ok (.getfield 258, 3) := by decide +kernel
theorem dc_FB_restore_83 : decode M_FB_restore.2.1 83 = .ok (.ireturn, 1) := by decide +kernel
theorem dc_FB_snapshotOf_0 : decode M_FB_snapshotOf.2.1 0 = .ok (.iload_n 1, 1) := by decide +kernel
theorem dc_FB_snapshotOf_1 : decode M_FB_snapshotOf.2.1 1 = .ok (.iconst 0, 1) := by decide +kernel
theorem dc_FB_snapshotOf_2 : decode M_FB_snapshotOf.2.1 2 = .ok (.aload_n 0, 1) := by decide +kernel
theorem dc_FB_snapshotOf_3 : decode M_FB_snapshotOf.2.1 3 = .ok (.getfield 94, 3) := by decide +kernel
theorem dc_FB_snapshotOf_6 : decode M_FB_snapshotOf.2.1 6 = .ok (.invokevirtual 98, 3) := by decide +kernel
theorem dc_FB_snapshotOf_9 : decode M_FB_snapshotOf.2.1 9 = .ok (.iconst 1, 1) := by decide +kernel
theorem dc_FB_snapshotOf_10 : decode M_FB_snapshotOf.2.1 10 = .ok (.isub, 1) := by decide +kernel
theorem dc_FB_snapshotOf_11 : decode M_FB_snapshotOf.2.1 11 = .ok (.invokestatic 39, 3) := by decide +kernel
theorem dc_FB_snapshotOf_14 : decode M_FB_snapshotOf.2.1 14 = .ok (.invokestatic 43, 3) := by decide +kernel
theorem dc_FB_snapshotOf_17 : decode M_FB_snapshotOf.2.1 17 = .ok (.aload_n 0, 1) := by decide +kernel
theorem dc_FB_snapshotOf_18 : decode M_FB_snapshotOf.2.1 18 = .ok (.getfield 94, 3) := by decide +kernel
theorem dc_FB_snapshotOf_21 : decode M_FB_snapshotOf.2.1 21 = .ok (.iload_n 1, 1) := by decide +kernel
theorem dc_FB_snapshotOf_22 : decode M_FB_snapshotOf.2.1 22 = .ok (.invokevirtual 144, 3) := by decide +kernel
theorem dc_FB_snapshotOf_25 : decode M_FB_snapshotOf.2.1 25 = .ok (.checkcast 129, 3) := by decide +kernel
theorem kk_0_129 : rK 0 129 = some 108 := by decide +kernel
theorem dc_FB_snapshotOf_28 : decode M_FB_snapshotOf.2.1 28 = .ok (.astore_n 2, 1) := by decide +kernel
theorem dc_FB_snapshotOf_29 : decode M_FB_snapshotOf.2.1 29 = .ok (.aload_n 2, 1) := by decide +kernel
theorem dc_FB_snapshotOf_30 : decode M_FB_snapshotOf.2.1 30 = .ok (.getfield 308, 3) := by decide +kernel
theorem kf_0_308 : rF 0 308 = some (8, 3) := by decide +kernel
theorem dc_FB_snapshotOf_33 : decode M_FB_snapshotOf.2.1 33 = .ok (.ifCond .ne 7, 3) := by decide +kernel
theorem dc_FB_snapshotOf_40 : decode M_FB_snapshotOf.2.1 40 = .ok (.iconst 0, 1) := by decide +kernel
theorem dc_FB_snapshotOf_36 : decode M_FB_snapshotOf.2.1 36 = .ok (.iconst 1, 1) := by decide +kernel
theorem dc_FB_snapshotOf_37 : decode M_FB_snapshotOf.2.1 37 = .ok (.goto 4, 3) := by decide +kernel
theorem dc_FB_snapshotOf_41 : decode M_FB_snapshotOf.2.1 41 = .ok (.invokestatic 43, 3) := by decide +kernel
theorem dc_FB_snapshotOf_44 : decode M_FB_snapshotOf.2.1 44 = .ok (.aload_n 2, 1) := by decide +kernel
theorem dc_FB_snapshotOf_45 : decode M_FB_snapshotOf.2.1 45 = .ok (.areturn, 1) := by decide +kernel
theorem dc_FB_canRestore_0 : decode M_FB_canRestore.2.1 0 = .ok (.aload_n 2, 1) := by decide +kernel
theorem dc_FB_canRestore_1 : decode M_FB_canRestore.2.1 1 = .ok (.getfield 345, 3) := by decide +kernel
theorem kf_0_345 : rF 0 345 = some (8, 1) := by decide +kernel
theorem dc_FB_canRestore_4 : decode M_FB_canRestore.2.1 4 = .ok (.iload_n 3, 1) := by decide +kernel
theorem dc_FB_canRestore_5 : decode M_FB_canRestore.2.1 5 = .ok (.iaload, 1) := by decide +kernel
theorem dc_FB_canRestore_6 : decode M_FB_canRestore.2.1 6 = .ok (.istore 4, 2) := by decide +kernel
theorem dc_FB_canRestore_8 : decode M_FB_canRestore.2.1 8 = .ok (.iload 4, 2) := by decide +kernel
theorem dc_FB_canRestore_10 : decode M_FB_canRestore.2.1 10 = .ok (.aload_n 2, 1) := by decide +kernel
theorem dc_FB_canRestore_11 : decode M_FB_canRestore.2.1 11 = .ok (.getfield 345, 3) := by decide +kernel
theorem dc_FB_canRestore_14 : decode M_FB_canRestore.2.1 14 = .ok (.iload_n 3, 1) := by decide +kernel
theorem dc_FB_canRestore_15 : decode M_FB_canRestore.2.1 15 = .ok (.iconst 1, 1) := by decide +kernel
theorem dc_FB_canRestore_16 : decode M_FB_canRestore.2.1 16 = .ok (.iadd, 1) := by decide +kernel
theorem dc_FB_canRestore_17 : decode M_FB_canRestore.2.1 17 = .ok (.iaload, 1) := by decide +kernel
theorem dc_FB_canRestore_18 : decode M_FB_canRestore.2.1 18 = .ok (.if_icmp .ge 45, 3) := by decide +kernel
theorem dc_FB_canRestore_63 : decode M_FB_canRestore.2.1 63 = .ok (.iconst 1, 1) := by decide +kernel
theorem dc_FB_canRestore_64 : decode M_FB_canRestore.2.1 64 = .ok (.ireturn, 1) := by decide +kernel
theorem dc_FB_canRestore_21 : decode M_FB_canRestore.2.1 21 = .ok (.aload_n 0, 1) := by decide +kernel
theorem dc_FB_canRestore_22 : decode M_FB_canRestore.2.1 22 = .ok (.aload_n 1, 1) := by decide +kernel
theorem dc_FB_canRestore_23 : decode M_FB_canRestore.2.1 23 = .ok (.getfield 141, 3) := by decide +kernel
theorem dc_FB_canRestore_26 : decode M_FB_canRestore.2.1 26 = .ok (.aload_n 2, 1) := by decide +kernel
theorem dc_FB_canRestore_27 : decode M_FB_canRestore.2.1 27 = .ok (.getfield 348, 3) := by decide +kernel
theorem kf_0_348 : rF 0 348 = some (8, 0) := by decide +kernel
theorem dc_FB_canRestore_30 : decode M_FB_canRestore.2.1 30 = .ok (.iload 4, 2) := by decide +kernel
theorem dc_FB_canRestore_32 : decode M_FB_canRestore.2.1 32 = .ok (.aaload, 1) := by decide +kernel
theorem dc_FB_canRestore_33 : decode M_FB_canRestore.2.1 33 = .ok (.getfield 351, 3) := by decide +kernel
theorem kf_0_351 : rF 0 351 = some (1, 1) := by decide +kernel
theorem dc_FB_canRestore_36 : decode M_FB_canRestore.2.1 36 = .ok (.invokevirtual 144, 3) := by decide +kernel
theorem dc_FB_canRestore_39 : decode M_FB_canRestore.2.1 39 = .ok (.checkcast 148, 3) := by decide +kernel
theorem dc_FB_canRestore_42 : decode M_FB_canRestore.2.1 42 = .ok (.invokevirtual 225, 3) := by decide +kernel
theorem dc_FB_canRestore_45 : decode M_FB_canRestore.2.1 45 = .ok (.aload_n 0, 1) := by decide +kernel
theorem dc_FB_canRestore_46 : decode M_FB_canRestore.2.1 46 = .ok (.getfield 18, 3) := by decide +kernel
theorem dc_FB_canRestore_49 : decode M_FB_canRestore.2.1 49 = .ok (.getfield 229, 3) := by decide +kernel
theorem dc_FB_canRestore_52 : decode M_FB_canRestore.2.1 52 = .ok (.if_icmp .ge 5, 3) := by decide +kernel
theorem dc_FB_canRestore_57 : decode M_FB_canRestore.2.1 57 = .ok (.iinc 4 1, 3) := by decide +kernel
theorem dc_FB_canRestore_60 : decode M_FB_canRestore.2.1 60 = .ok (.goto (-52), 3) := by decide +kernel
theorem dc_FB_canRestore_55 : decode M_FB_canRestore.2.1 55 = .ok (.iconst 0, 1) := by decide +kernel
theorem dc_FB_canRestore_56 : decode M_FB_canRestore.2.1 56 = .ok (.ireturn, 1) := by decide +kernel
theorem dc_FB_restoreFile_0 : decode M_FB_restoreFile.2.1 0 = .ok (.aload_n 0, 1) := by decide +kernel
theorem dc_FB_restoreFile_1 : decode M_FB_restoreFile.2.1 1 = .ok (.iconst 0, 1) := by decide +kernel
theorem dc_FB_restoreFile_2 : decode M_FB_restoreFile.2.1 2 = .ok (.putfield 258, 3) := by decide +kernel
theorem kp_FB_restoreFile_0_6 : fpB M_FB_restoreFile 0 6 = true := by decide +kernel
theorem dc_FB_restoreFile_5 : decode M_FB_restoreFile.2.1 5 = .ok (.iconst (-1), 1) := by decide +kernel
theorem dc_FB_restoreFile_6 : decode M_FB_restoreFile.2.1 6 = .ok (.istore 4, 2) := by decide +kernel
theorem dc_FB_restoreFile_8 : decode M_FB_restoreFile.2.1 8 = .ok (.aload_n 2, 1) := by decide +kernel
theorem dc_FB_restoreFile_9 : decode M_FB_restoreFile.2.1 9 = .ok (.getfield 345, 3) := by decide +kernel
theorem dc_FB_restoreFile_12 : decode M_FB_restoreFile.2.1 12 = .ok (.iload_n 3, 1) := by decide +kernel
theorem dc_FB_restoreFile_13 : decode M_FB_restoreFile.2.1 13 = .ok (.iaload, 1) := by decide +kernel
theorem dc_FB_restoreFile_14 : decode M_FB_restoreFile.2.1 14 = .ok (.istore 5, 2) := by decide +kernel
theorem kiI_0_6 {z : Int} : fitB 0 6 (vI z) = true := fi_I (by decide +kernel)
theorem dc_FB_restoreFile_16 : decode M_FB_restoreFile.2.1 16 = .ok (.iload 5, 2) := by decide +kernel
theorem dc_FB_restoreFile_18 : decode M_FB_restoreFile.2.1 18 = .ok (.aload_n 2, 1) := by decide +kernel
theorem dc_FB_restoreFile_19 : decode M_FB_restoreFile.2.1 19 = .ok (.getfield 345, 3) := by decide +kernel
theorem dc_FB_restoreFile_22 : decode M_FB_restoreFile.2.1 22 = .ok (.iload_n 3, 1) := by decide +kernel
theorem dc_FB_restoreFile_23 : decode M_FB_restoreFile.2.1 23 = .ok (.iconst 1, 1) := by decide +kernel
theorem dc_FB_restoreFile_24 : decode M_FB_restoreFile.2.1 24 = .ok (.iadd, 1) := by decide +kernel
theorem dc_FB_restoreFile_25 : decode M_FB_restoreFile.2.1 25 = .ok (.iaload, 1) := by decide +kernel
theorem dc_FB_restoreFile_26 : decode M_FB_restoreFile.2.1 26 = .ok (.if_icmp .ge 99, 3) := by decide +kernel
theorem dc_FB_restoreFile_125 : decode M_FB_restoreFile.2.1 125 = .ok (.return_, 1) := by decide +kernel
theorem dc_FB_restoreFile_29 : decode M_FB_restoreFile.2.1 29 = .ok (.aload_n 2, 1) := by decide +kernel
theorem dc_FB_restoreFile_30 : decode M_FB_restoreFile.2.1 30 = .ok (.getfield 348, 3) := by decide +kernel
theorem dc_FB_restoreFile_33 : decode M_FB_restoreFile.2.1 33 = .ok (.iload 5, 2) := by decide +kernel
theorem dc_FB_restoreFile_35 : decode M_FB_restoreFile.2.1 35 = .ok (.aaload, 1) := by decide +kernel
theorem dc_FB_restoreFile_36 : decode M_FB_restoreFile.2.1 36 = .ok (.astore 6, 2) := by decide +kernel
theorem dc_FB_restoreFile_38 : decode M_FB_restoreFile.2.1 38 = .ok (.aload 6, 2) := by decide +kernel
theorem dc_FB_restoreFile_40 : decode M_FB_restoreFile.2.1 40 = .ok (.getfield 351, 3) := by decide +kernel
theorem dc_FB_restoreFile_43 : decode M_FB_restoreFile.2.1 43 = .ok (.iload 4, 2) := by decide +kernel
theorem dc_FB_restoreFile_45 : decode M_FB_restoreFile.2.1 45 = .ok (.if_icmp .eq 33, 3) := by decide +kernel
theorem dc_FB_restoreFile_48 : decode M_FB_restoreFile.2.1 48 = .ok (.aload_n 0, 1) := by decide +kernel
theorem dc_FB_restoreFile_49 : decode M_FB_restoreFile.2.1 49 = .ok (.aload_n 1, 1) := by decide +kernel
theorem dc_FB_restoreFile_50 : decode M_FB_restoreFile.2.1 50 = .ok (.getfield 141, 3) := by decide +kernel
theorem dc_FB_restoreFile_53 : decode M_FB_restoreFile.2.1 53 = .ok (.aload 6, 2) := by decide +kernel
theorem dc_FB_restoreFile_55 : decode M_FB_restoreFile.2.1 55 = .ok (.getfield 351, 3) := by decide +kernel
theorem dc_FB_restoreFile_58 : decode M_FB_restoreFile.2.1 58 = .ok (.invokevirtual 144, 3) := by decide +kernel
theorem dc_FB_restoreFile_61 : decode M_FB_restoreFile.2.1 61 = .ok (.checkcast 148, 3) := by decide +kernel
theorem dc_FB_restoreFile_64 : decode M_FB_restoreFile.2.1 64 = .ok (.aload_n 0, 1) := by decide +kernel
theorem dc_FB_restoreFile_65 : decode M_FB_restoreFile.2.1 65 = .ok (.getfield 33, 3) := by decide +kernel
theorem dc_FB_restoreFile_68 : decode M_FB_restoreFile.2.1 68 = .ok (.invokevirtual 235, 3) := by decide +kernel
theorem dc_FB_restoreFile_71 : decode M_FB_restoreFile.2.1 71 = .ok (.aload 6, 2) := by decide +kernel
theorem dc_FB_restoreFile_73 : decode M_FB_restoreFile.2.1 73 = .ok (.getfield 351, 3) := by decide +kernel
theorem dc_FB_restoreFile_76 : decode M_FB_restoreFile.2.1 76 = .ok (.istore 4, 2) := by decide +kernel
theorem dc_FB_restoreFile_78 : decode M_FB_restoreFile.2.1 78 = .ok (.aload_n 0, 1) := by decide +kernel
theorem dc_FB_restoreFile_79 : decode M_FB_restoreFile.2.1 79 = .ok (.getfield 33, 3) := by decide +kernel
theorem dc_FB_restoreFile_82 : decode M_FB_restoreFile.2.1 82 = .ok (.aload 6, 2) := by decide +kernel
theorem dc_FB_restoreFile_84 : decode M_FB_restoreFile.2.1 84 = .ok (.getfield 354, 3) := by decide +kernel
theorem kf_0_354 : rF 0 354 = some (1, 2) := by decide +kernel
theorem dc_FB_restoreFile_87 : decode M_FB_restoreFile.2.1 87 = .ok (.aload_n 0, 1) := by decide +kernel
theorem dc_FB_restoreFile_88 : decode M_FB_restoreFile.2.1 88 = .ok (.getfield 29, 3) := by decide +kernel
theorem dc_FB_restoreFile_91 : decode M_FB_restoreFile.2.1 91 = .ok (.aload_n 0, 1) := by decide +kernel
theorem dc_FB_restoreFile_92 : decode M_FB_restoreFile.2.1 92 = .ok (.getfield 258, 3) := by decide +kernel
theorem dc_FB_restoreFile_95 : decode M_FB_restoreFile.2.1 95 = .ok (.aload 6, 2) := by decide +kernel
theorem dc_FB_restoreFile_97 : decode M_FB_restoreFile.2.1 97 = .ok (.getfield 357, 3) := by decide +kernel
theorem kf_0_357 : rF 0 357 = some (1, 0) := by decide +kernel
theorem dc_FB_restoreFile_100 : decode M_FB_restoreFile.2.1 100 = .ok (.arraylength, 1) := by decide +kernel
theorem dc_FB_restoreFile_101 : decode M_FB_restoreFile.2.1 101 = .ok (.invokestatic 358, 3) := by decide +kernel
theorem km_0_358 : rM 0 358 = some (4, M_FB_init) := rM_at (j := 0) (p := 893) (by decide +kernel) rfl
theorem dc_FB_restoreFile_104 : decode M_FB_restoreFile.2.1 104 = .ok (.aload_n 0, 1) := by decide +kernel
theorem dc_FB_restoreFile_105 : decode M_FB_restoreFile.2.1 105 = .ok (.dup, 1) := by decide +kernel
theorem dc_FB_restoreFile_106 : decode M_FB_restoreFile.2.1 106 = .ok (.getfield 258, 3) := by decide +kernel
theorem dc_FB_restoreFile_109 : decode M_FB_restoreFile.2.1 109 = .ok (.aload 6, 2) := by decide +kernel
theorem dc_FB_restoreFile_111 : decode M_FB_restoreFile.2.1 111 = .ok (.getfield 357, 3) := by decide +kernel
theorem dc_FB_restoreFile_114 : decode M_FB_restoreFile.2.1 114 = .ok (.arraylength, 1) := by decide +kernel
theorem dc_FB_restoreFile_115 : decode M_FB_restoreFile.2.1 115 = .ok (.iadd, 1) := by decide +kernel
theorem dc_FB_restoreFile_116 : decode M_FB_restoreFile.2.1 116 = .ok (.putfield 258, 3) := by decide +kernel
theorem dc_FB_restoreFile_119 : decode M_FB_restoreFile.2.1 119 = .ok (.iinc 5 1, 3) := by decide +kernel
theorem dc_FB_restoreFile_122 : decode M_FB_restoreFile.2.1 122 = .ok (.goto (-106), 3) := by decide +kernel
theorem dc_La_forget_0 : decode M_La_forget.2.1 0 = .ok (.aload_n 3, 1) := by decide +kernel
theorem dc_La_forget_1 : decode M_La_forget.2.1 1 = .ok (.iconst 0, 1) := by decide +kernel
theorem dc_La_forget_2 : decode M_La_forget.2.1 2 = .ok (.aload_n 0, 1) := by decide +kernel
theorem dc_La_forget_3 : decode M_La_forget.2.1 3 = .ok (.iload_n 1, 1) := by decide +kernel
theorem dc_La_forget_4 : decode M_La_forget.2.1 4 = .ok (.iload_n 2, 1) := by decide +kernel
theorem dc_La_forget_5 : decode M_La_forget.2.1 5 = .ok (.invokevirtual 67, 3) := by decide +kernel
theorem km_11_67 : rM 11 67 = some (1, M_FB_forget) := rM_at (j := 111) (p := 897) (by decide +kernel) rfl
theorem np_FB_forget : nP M_FB_forget = 2 := by decide +kernel
theorem dc_La_forget_8 : decode M_La_forget.2.1 8 = .ok (.i2l, 1) := by decide +kernel
theorem dc_La_forget_9 : decode M_La_forget.2.1 9 = .ok (.lastore, 1) := by decide +kernel
theorem dc_La_forget_10 : decode M_La_forget.2.1 10 = .ok (.goto 11, 3) := by decide +kernel
theorem dc_La_forget_21 : decode M_La_forget.2.1 21 = .ok (.iconst 0, 1) := by decide +kernel
theorem dc_La_forget_22 : decode M_La_forget.2.1 22 = .ok (.ireturn, 1) := by decide +kernel
theorem dc_La_forget_13 : decode M_La_forget.2.1 13 = .ok (.astore 4, 2) := by decide +kernel
theorem dc_La_forget_15 : decode M_La_forget.2.1 15 = .ok (.iconst 1, 1) := by decide +kernel
theorem dc_La_forget_16 : decode M_La_forget.2.1 16 = .ok (.ireturn, 1) := by decide +kernel
theorem dc_La_forget_17 : decode M_La_forget.2.1 17 = .ok (.astore 4, 2) := by decide +kernel
theorem dc_La_forget_19 : decode M_La_forget.2.1 19 = .ok (.iconst 2, 1) := by decide +kernel
theorem dc_La_forget_20 : decode M_La_forget.2.1 20 = .ok (.ireturn, 1) := by decide +kernel
theorem dc_FB_forget_0 : decode M_FB_forget.2.1 0 = .ok (.aload_n 0, 1) := by decide +kernel
theorem dc_FB_forget_1 : decode M_FB_forget.2.1 1 = .ok (.iload_n 1, 1) := by decide +kernel
theorem dc_FB_forget_2 : decode M_FB_forget.2.1 2 = .ok (.invokevirtual 60, 3) := by decide +kernel
theorem dc_FB_forget_5 : decode M_FB_forget.2.1 5 = .ok (.astore_n 3, 1) := by decide +kernel
theorem dc_FB_forget_6 : decode M_FB_forget.2.1 6 = .ok (.aload_n 3, 1) := by decide +kernel
theorem dc_FB_forget_7 : decode M_FB_forget.2.1 7 = .ok (.iload_n 2, 1) := by decide +kernel
theorem dc_FB_forget_8 : decode M_FB_forget.2.1 8 = .ok (.invokestatic 243, 3) := by decide +kernel
theorem dc_FB_forget_11 : decode M_FB_forget.2.1 11 = .ok (.astore 4, 2) := by decide +kernel
theorem dc_FB_forget_13 : decode M_FB_forget.2.1 13 = .ok (.aload_n 3, 1) := by decide +kernel
theorem dc_FB_forget_14 : decode M_FB_forget.2.1 14 = .ok (.getfield 75, 3) := by decide +kernel
theorem dc_FB_forget_17 : decode M_FB_forget.2.1 17 = .ok (.ifCond .ne 7, 3) := by decide +kernel
theorem dc_FB_forget_24 : decode M_FB_forget.2.1 24 = .ok (.iconst 0, 1) := by decide +kernel
theorem dc_FB_forget_20 : decode M_FB_forget.2.1 20 = .ok (.iconst 1, 1) := by decide +kernel
theorem dc_FB_forget_21 : decode M_FB_forget.2.1 21 = .ok (.goto 4, 3) := by decide +kernel
theorem dc_FB_forget_25 : decode M_FB_forget.2.1 25 = .ok (.invokestatic 51, 3) := by decide +kernel
theorem dc_FB_forget_28 : decode M_FB_forget.2.1 28 = .ok (.aload_n 3, 1) := by decide +kernel
theorem dc_FB_forget_29 : decode M_FB_forget.2.1 29 = .ok (.aload 4, 2) := by decide +kernel
theorem dc_FB_forget_31 : decode M_FB_forget.2.1 31 = .ok (.invokevirtual 261, 3) := by decide +kernel
theorem km_0_261 : rM 0 261 = some (1, M_House_dropSnapshot) := rM_at (j := 112) (p := 901) (by decide +kernel) rfl
theorem np_House_dropSnapshot : nP M_House_dropSnapshot = 1 := by decide +kernel
theorem dc_FB_forget_34 : decode M_FB_forget.2.1 34 = .ok (.iconst 0, 1) := by decide +kernel
theorem dc_FB_forget_35 : decode M_FB_forget.2.1 35 = .ok (.istore 5, 2) := by decide +kernel
theorem dc_FB_forget_37 : decode M_FB_forget.2.1 37 = .ok (.iconst 0, 1) := by decide +kernel
theorem dc_FB_forget_38 : decode M_FB_forget.2.1 38 = .ok (.istore 6, 2) := by decide +kernel
theorem dc_FB_forget_40 : decode M_FB_forget.2.1 40 = .ok (.iload 6, 2) := by decide +kernel
theorem dc_FB_forget_42 : decode M_FB_forget.2.1 42 = .ok (.aload_n 3, 1) := by decide +kernel
theorem dc_FB_forget_43 : decode M_FB_forget.2.1 43 = .ok (.getfield 141, 3) := by decide +kernel
theorem dc_FB_forget_46 : decode M_FB_forget.2.1 46 = .ok (.invokevirtual 98, 3) := by decide +kernel
theorem dc_FB_forget_49 : decode M_FB_forget.2.1 49 = .ok (.if_icmp .ge 49, 3) := by decide +kernel
theorem dc_FB_forget_98 : decode M_FB_forget.2.1 98 = .ok (.iload 5, 2) := by decide +kernel
theorem dc_FB_forget_100 : decode M_FB_forget.2.1 100 = .ok (.ireturn, 1) := by decide +kernel
theorem dc_FB_forget_52 : decode M_FB_forget.2.1 52 = .ok (.aload_n 3, 1) := by decide +kernel
theorem dc_FB_forget_53 : decode M_FB_forget.2.1 53 = .ok (.getfield 141, 3) := by decide +kernel
theorem dc_FB_forget_56 : decode M_FB_forget.2.1 56 = .ok (.iload 6, 2) := by decide +kernel
theorem dc_FB_forget_58 : decode M_FB_forget.2.1 58 = .ok (.invokevirtual 144, 3) := by decide +kernel
theorem dc_FB_forget_61 : decode M_FB_forget.2.1 61 = .ok (.checkcast 148, 3) := by decide +kernel
theorem dc_FB_forget_64 : decode M_FB_forget.2.1 64 = .ok (.astore 7, 2) := by decide +kernel
theorem dc_FB_forget_66 : decode M_FB_forget.2.1 66 = .ok (.aload 7, 2) := by decide +kernel
theorem dc_FB_forget_68 : decode M_FB_forget.2.1 68 = .ok (.getfield 222, 3) := by decide +kernel
theorem dc_FB_forget_71 : decode M_FB_forget.2.1 71 = .ok (.ifCond .ne 21, 3) := by decide +kernel
theorem dc_FB_forget_74 : decode M_FB_forget.2.1 74 = .ok (.aload 7, 2) := by decide +kernel
theorem dc_FB_forget_76 : decode M_FB_forget.2.1 76 = .ok (.getfield 264, 3) := by decide +kernel
theorem kf_0_264 : rF 0 264 = some (7, 5) := by decide +kernel
theorem dc_FB_forget_79 : decode M_FB_forget.2.1 79 = .ok (.ifCond .ne 13, 3) := by decide +kernel
theorem dc_FB_forget_82 : decode M_FB_forget.2.1 82 = .ok (.aload_n 0, 1) := by decide +kernel
theorem dc_FB_forget_83 : decode M_FB_forget.2.1 83 = .ok (.aload_n 3, 1) := by decide +kernel
theorem dc_FB_forget_84 : decode M_FB_forget.2.1 84 = .ok (.aload 7, 2) := by decide +kernel
theorem dc_FB_forget_86 : decode M_FB_forget.2.1 86 = .ok (.invokevirtual 266, 3) := by decide +kernel
theorem km_0_266 : rM 0 266 = some (1, M_FB_free) := rM_at (j := 113) (p := 905) (by decide +kernel) rfl
theorem np_FB_free : nP M_FB_free = 2 := by decide +kernel
theorem dc_FB_forget_89 : decode M_FB_forget.2.1 89 = .ok (.iinc 5 1, 3) := by decide +kernel
theorem dc_FB_forget_92 : decode M_FB_forget.2.1 92 = .ok (.iinc 6 1, 3) := by decide +kernel
theorem dc_FB_forget_95 : decode M_FB_forget.2.1 95 = .ok (.goto (-55), 3) := by decide +kernel
theorem dc_House_dropSnapshot_0 : decode M_House_dropSnapshot.2.1 0 = .ok (.iconst 0, 1) := by decide +kernel
theorem dc_House_dropSnapshot_1 : decode M_House_dropSnapshot.2.1 1 = .ok (.istore_n 2, 1) := by decide +kernel
theorem dc_House_dropSnapshot_2 : decode M_House_dropSnapshot.2.1 2 = .ok (.iload_n 2, 1) := by decide +kernel
theorem dc_House_dropSnapshot_3 : decode M_House_dropSnapshot.2.1 3 = .ok (.aload_n 1, 1) := by decide +kernel
theorem dc_House_dropSnapshot_4 : decode M_House_dropSnapshot.2.1 4 = .ok (.getfield 94, 3) := by decide +kernel
theorem dc_House_dropSnapshot_7 : decode M_House_dropSnapshot.2.1 7 = .ok (.arraylength, 1) := by decide +kernel
theorem dc_House_dropSnapshot_8 : decode M_House_dropSnapshot.2.1 8 = .ok (.if_icmp .ge 24, 3) := by decide +kernel
theorem dc_House_dropSnapshot_32 : decode M_House_dropSnapshot.2.1 32 = .ok (.aload_n 0, 1) := by decide +kernel
theorem dc_House_dropSnapshot_33 : decode M_House_dropSnapshot.2.1 33 = .ok (.getfield 32, 3) := by decide +kernel
theorem dc_House_dropSnapshot_36 : decode M_House_dropSnapshot.2.1 36 = .ok (.invokevirtual 56, 3) := by decide +kernel
theorem dc_House_dropSnapshot_11 : decode M_House_dropSnapshot.2.1 11 = .ok (.aload_n 1, 1) := by decide +kernel
theorem dc_House_dropSnapshot_12 : decode M_House_dropSnapshot.2.1 12 = .ok (.getfield 94, 3) := by decide +kernel
theorem dc_House_dropSnapshot_15 : decode M_House_dropSnapshot.2.1 15 = .ok (.iload_n 2, 1) := by decide +kernel
theorem dc_House_dropSnapshot_16 : decode M_House_dropSnapshot.2.1 16 = .ok (.aaload, 1) := by decide +kernel
theorem dc_House_dropSnapshot_17 : decode M_House_dropSnapshot.2.1 17 = .ok (.dup, 1) := by decide +kernel
theorem dc_House_dropSnapshot_18 : decode M_House_dropSnapshot.2.1 18 = .ok (.getfield 99, 3) := by decide +kernel
theorem dc_House_dropSnapshot_21 : decode M_House_dropSnapshot.2.1 21 = .ok (.iconst 1, 1) := by decide +kernel
theorem dc_House_dropSnapshot_22 : decode M_House_dropSnapshot.2.1 22 = .ok (.isub, 1) := by decide +kernel
theorem dc_House_dropSnapshot_23 : decode M_House_dropSnapshot.2.1 23 = .ok (.putfield 99, 3) := by decide +kernel
theorem kp_House_dropSnapshot_1_3 : fpB M_House_dropSnapshot 1 3 = true := by decide +kernel
theorem dc_House_dropSnapshot_26 : decode M_House_dropSnapshot.2.1 26 = .ok (.iinc 2 1, 3) := by decide +kernel
theorem dc_House_dropSnapshot_29 : decode M_House_dropSnapshot.2.1 29 = .ok (.goto (-27), 3) := by decide +kernel
theorem dc_House_dropSnapshot_39 : decode M_House_dropSnapshot.2.1 39 = .ok (.iconst 1, 1) := by decide +kernel
theorem dc_House_dropSnapshot_40 : decode M_House_dropSnapshot.2.1 40 = .ok (.isub, 1) := by decide +kernel
theorem dc_House_dropSnapshot_41 : decode M_House_dropSnapshot.2.1 41 = .ok (.istore_n 2, 1) := by decide +kernel
theorem dc_House_dropSnapshot_42 : decode M_House_dropSnapshot.2.1 42 = .ok (.iload_n 2, 1) := by decide +kernel
theorem dc_House_dropSnapshot_43 : decode M_House_dropSnapshot.2.1 43 = .ok (.ifCond .lt 60, 3) := by decide +kernel
theorem dc_House_dropSnapshot_103 : decode M_House_dropSnapshot.2.1 103 = .ok (.aload_n 1, 1) := by decide +kernel
theorem dc_House_dropSnapshot_104 : decode M_House_dropSnapshot.2.1 104 = .ok (.iconst 1, 1) := by decide +kernel
theorem dc_House_dropSnapshot_105 : decode M_House_dropSnapshot.2.1 105 = .ok (.putfield 107, 3) := by decide +kernel
theorem kf_5_107 : rF 5 107 = some (8, 3) := by decide +kernel
theorem kp_House_dropSnapshot_8_3 : fpB M_House_dropSnapshot 8 3 = true := by decide +kernel
theorem dc_House_dropSnapshot_108 : decode M_House_dropSnapshot.2.1 108 = .ok (.aload_n 0, 1) := by decide +kernel
theorem dc_House_dropSnapshot_109 : decode M_House_dropSnapshot.2.1 109 = .ok (.dup, 1) := by decide +kernel
theorem dc_House_dropSnapshot_110 : decode M_House_dropSnapshot.2.1 110 = .ok (.getfield 102, 3) := by decide +kernel
theorem dc_House_dropSnapshot_113 : decode M_House_dropSnapshot.2.1 113 = .ok (.iconst 1, 1) := by decide +kernel
theorem dc_House_dropSnapshot_114 : decode M_House_dropSnapshot.2.1 114 = .ok (.isub, 1) := by decide +kernel
theorem dc_House_dropSnapshot_115 : decode M_House_dropSnapshot.2.1 115 = .ok (.putfield 102, 3) := by decide +kernel
theorem kp_House_dropSnapshot_5_10 : fpB M_House_dropSnapshot 5 10 = true := by decide +kernel
theorem dc_House_dropSnapshot_118 : decode M_House_dropSnapshot.2.1 118 = .ok (.return_, 1) := by decide +kernel
theorem kiZ_8_3 {z : Int} : fitB 8 3 (vI z) = true ↔ (z = 0 ∨ z = 1) := fi_Z (by decide +kernel)
theorem dc_House_dropSnapshot_46 : decode M_House_dropSnapshot.2.1 46 = .ok (.aload_n 0, 1) := by decide +kernel
theorem dc_House_dropSnapshot_47 : decode M_House_dropSnapshot.2.1 47 = .ok (.getfield 32, 3) := by decide +kernel
theorem dc_House_dropSnapshot_50 : decode M_House_dropSnapshot.2.1 50 = .ok (.iload_n 2, 1) := by decide +kernel
theorem dc_House_dropSnapshot_51 : decode M_House_dropSnapshot.2.1 51 = .ok (.invokevirtual 60, 3) := by decide +kernel
theorem dc_House_dropSnapshot_54 : decode M_House_dropSnapshot.2.1 54 = .ok (.checkcast 72, 3) := by decide +kernel
theorem dc_House_dropSnapshot_57 : decode M_House_dropSnapshot.2.1 57 = .ok (.astore_n 3, 1) := by decide +kernel
theorem dc_House_dropSnapshot_58 : decode M_House_dropSnapshot.2.1 58 = .ok (.aload_n 3, 1) := by decide +kernel
theorem dc_House_dropSnapshot_59 : decode M_House_dropSnapshot.2.1 59 = .ok (.getfield 99, 3) := by decide +kernel
theorem dc_House_dropSnapshot_62 : decode M_House_dropSnapshot.2.1 62 = .ok (.ifCond .ne 35, 3) := by decide +kernel
theorem dc_House_dropSnapshot_65 : decode M_House_dropSnapshot.2.1 65 = .ok (.aload_n 0, 1) := by decide +kernel
theorem dc_House_dropSnapshot_66 : decode M_House_dropSnapshot.2.1 66 = .ok (.getfield 36, 3) := by decide +kernel
theorem dc_House_dropSnapshot_69 : decode M_House_dropSnapshot.2.1 69 = .ok (.aload_n 3, 1) := by decide +kernel
theorem dc_House_dropSnapshot_70 : decode M_House_dropSnapshot.2.1 70 = .ok (.getfield 88, 3) := by decide +kernel
theorem dc_House_dropSnapshot_73 : decode M_House_dropSnapshot.2.1 73 = .ok (.invokevirtual 60, 3) := by decide +kernel
theorem dc_House_dropSnapshot_76 : decode M_House_dropSnapshot.2.1 76 = .ok (.checkcast 64, 3) := by decide +kernel
theorem dc_House_dropSnapshot_79 : decode M_House_dropSnapshot.2.1 79 = .ok (.dup, 1) := by decide +kernel
theorem dc_House_dropSnapshot_80 : decode M_House_dropSnapshot.2.1 80 = .ok (.getfield 105, 3) := by decide +kernel
theorem kf_5_105 : rF 5 105 = some (7, 5) := by decide +kernel
theorem dc_House_dropSnapshot_83 : decode M_House_dropSnapshot.2.1 83 = .ok (.iconst 1, 1) := by decide +kernel
theorem dc_House_dropSnapshot_84 : decode M_House_dropSnapshot.2.1 84 = .ok (.isub, 1) := by decide +kernel
theorem dc_House_dropSnapshot_85 : decode M_House_dropSnapshot.2.1 85 = .ok (.putfield 105, 3) := by decide +kernel
theorem kp_House_dropSnapshot_7_5 : fpB M_House_dropSnapshot 7 5 = true := by decide +kernel
theorem dc_House_dropSnapshot_88 : decode M_House_dropSnapshot.2.1 88 = .ok (.aload_n 0, 1) := by decide +kernel
theorem dc_House_dropSnapshot_89 : decode M_House_dropSnapshot.2.1 89 = .ok (.getfield 32, 3) := by decide +kernel
theorem dc_House_dropSnapshot_92 : decode M_House_dropSnapshot.2.1 92 = .ok (.iload_n 2, 1) := by decide +kernel
theorem dc_House_dropSnapshot_93 : decode M_House_dropSnapshot.2.1 93 = .ok (.invokevirtual 78, 3) := by decide +kernel
theorem dc_House_dropSnapshot_96 : decode M_House_dropSnapshot.2.1 96 = .ok (.pop, 1) := by decide +kernel
theorem dc_House_dropSnapshot_97 : decode M_House_dropSnapshot.2.1 97 = .ok (.iinc 2 (-1), 3) := by decide +kernel
theorem dc_House_dropSnapshot_100 : decode M_House_dropSnapshot.2.1 100 = .ok (.goto (-58), 3) := by decide +kernel
theorem dc_FB_free_0 : decode M_FB_free.2.1 0 = .ok (.iconst 0, 1) := by decide +kernel
theorem dc_FB_free_1 : decode M_FB_free.2.1 1 = .ok (.istore_n 3, 1) := by decide +kernel
theorem dc_FB_free_2 : decode M_FB_free.2.1 2 = .ok (.iload_n 3, 1) := by decide +kernel
theorem dc_FB_free_3 : decode M_FB_free.2.1 3 = .ok (.aload_n 2, 1) := by decide +kernel
theorem dc_FB_free_4 : decode M_FB_free.2.1 4 = .ok (.getfield 177, 3) := by decide +kernel
theorem dc_FB_free_7 : decode M_FB_free.2.1 7 = .ok (.arraylength, 1) := by decide +kernel
theorem dc_FB_free_8 : decode M_FB_free.2.1 8 = .ok (.if_icmp .ge 20, 3) := by decide +kernel
theorem dc_FB_free_28 : decode M_FB_free.2.1 28 = .ok (.aload_n 2, 1) := by decide +kernel
theorem dc_FB_free_29 : decode M_FB_free.2.1 29 = .ok (.iconst 1, 1) := by decide +kernel
theorem dc_FB_free_30 : decode M_FB_free.2.1 30 = .ok (.putfield 222, 3) := by decide +kernel
theorem kp_FB_free_7_4 : fpB M_FB_free 7 4 = true := by decide +kernel
theorem dc_FB_free_33 : decode M_FB_free.2.1 33 = .ok (.aload_n 2, 1) := by decide +kernel
theorem dc_FB_free_34 : decode M_FB_free.2.1 34 = .ok (.iconst 0, 1) := by decide +kernel
theorem dc_FB_free_35 : decode M_FB_free.2.1 35 = .ok (.putfield 150, 3) := by decide +kernel
theorem kp_FB_free_7_3 : fpB M_FB_free 7 3 = true := by decide +kernel
theorem dc_FB_free_38 : decode M_FB_free.2.1 38 = .ok (.return_, 1) := by decide +kernel
theorem kiZ_7_4 {z : Int} : fitB 7 4 (vI z) = true ↔ (z = 0 ∨ z = 1) := fi_Z (by decide +kernel)
theorem dc_FB_free_11 : decode M_FB_free.2.1 11 = .ok (.aload_n 0, 1) := by decide +kernel
theorem dc_FB_free_12 : decode M_FB_free.2.1 12 = .ok (.aload_n 1, 1) := by decide +kernel
theorem dc_FB_free_13 : decode M_FB_free.2.1 13 = .ok (.aload_n 2, 1) := by decide +kernel
theorem dc_FB_free_14 : decode M_FB_free.2.1 14 = .ok (.getfield 177, 3) := by decide +kernel
theorem dc_FB_free_17 : decode M_FB_free.2.1 17 = .ok (.iload_n 3, 1) := by decide +kernel
theorem dc_FB_free_18 : decode M_FB_free.2.1 18 = .ok (.aaload, 1) := by decide +kernel
theorem dc_FB_free_19 : decode M_FB_free.2.1 19 = .ok (.invokevirtual 330, 3) := by decide +kernel
theorem dc_FB_free_22 : decode M_FB_free.2.1 22 = .ok (.iinc 3 1, 3) := by decide +kernel
theorem dc_FB_free_25 : decode M_FB_free.2.1 25 = .ok (.goto (-23), 3) := by decide +kernel
theorem dc_La_health_0 : decode M_La_health.2.1 0 = .ok (.aload_n 3, 1) := by decide +kernel
theorem dc_La_health_1 : decode M_La_health.2.1 1 = .ok (.iconst 0, 1) := by decide +kernel
theorem dc_La_health_2 : decode M_La_health.2.1 2 = .ok (.aload_n 0, 1) := by decide +kernel
theorem dc_La_health_3 : decode M_La_health.2.1 3 = .ok (.iload_n 1, 1) := by decide +kernel
theorem dc_La_health_4 : decode M_La_health.2.1 4 = .ok (.iload_n 2, 1) := by decide +kernel
theorem dc_La_health_5 : decode M_La_health.2.1 5 = .ok (.invokevirtual 71, 3) := by decide +kernel
theorem km_11_71 : rM 11 71 = some (1, M_FB_health) := rM_at (j := 115) (p := 912) (by decide +kernel) rfl
theorem np_FB_health : nP M_FB_health = 2 := by decide +kernel
theorem dc_La_health_8 : decode M_La_health.2.1 8 = .ok (.i2l, 1) := by decide +kernel
theorem dc_La_health_9 : decode M_La_health.2.1 9 = .ok (.lastore, 1) := by decide +kernel
theorem dc_La_health_10 : decode M_La_health.2.1 10 = .ok (.goto 7, 3) := by decide +kernel
theorem dc_La_health_17 : decode M_La_health.2.1 17 = .ok (.iconst 0, 1) := by decide +kernel
theorem dc_La_health_18 : decode M_La_health.2.1 18 = .ok (.ireturn, 1) := by decide +kernel
theorem dc_La_health_13 : decode M_La_health.2.1 13 = .ok (.astore 4, 2) := by decide +kernel
theorem dc_La_health_15 : decode M_La_health.2.1 15 = .ok (.iconst 1, 1) := by decide +kernel
theorem dc_La_health_16 : decode M_La_health.2.1 16 = .ok (.ireturn, 1) := by decide +kernel
theorem dc_FB_health_0 : decode M_FB_health.2.1 0 = .ok (.aload_n 0, 1) := by decide +kernel
theorem dc_FB_health_1 : decode M_FB_health.2.1 1 = .ok (.iload_n 1, 1) := by decide +kernel
theorem dc_FB_health_2 : decode M_FB_health.2.1 2 = .ok (.invokevirtual 60, 3) := by decide +kernel
theorem dc_FB_health_5 : decode M_FB_health.2.1 5 = .ok (.iload_n 2, 1) := by decide +kernel
theorem dc_FB_health_6 : decode M_FB_health.2.1 6 = .ok (.invokestatic 166, 3) := by decide +kernel
theorem dc_FB_health_9 : decode M_FB_health.2.1 9 = .ok (.astore_n 3, 1) := by decide +kernel
theorem dc_FB_health_10 : decode M_FB_health.2.1 10 = .ok (.iconst 0, 1) := by decide +kernel
theorem dc_FB_health_11 : decode M_FB_health.2.1 11 = .ok (.istore 4, 2) := by decide +kernel
theorem dc_FB_health_13 : decode M_FB_health.2.1 13 = .ok (.iconst 0, 1) := by decide +kernel
theorem dc_FB_health_14 : decode M_FB_health.2.1 14 = .ok (.istore 5, 2) := by decide +kernel
theorem dc_FB_health_16 : decode M_FB_health.2.1 16 = .ok (.iload 5, 2) := by decide +kernel
theorem dc_FB_health_18 : decode M_FB_health.2.1 18 = .ok (.aload_n 3, 1) := by decide +kernel
theorem dc_FB_health_19 : decode M_FB_health.2.1 19 = .ok (.getfield 177, 3) := by decide +kernel
theorem dc_FB_health_22 : decode M_FB_health.2.1 22 = .ok (.arraylength, 1) := by decide +kernel
theorem dc_FB_health_23 : decode M_FB_health.2.1 23 = .ok (.if_icmp .ge 45, 3) := by decide +kernel
theorem dc_FB_health_68 : decode M_FB_health.2.1 68 = .ok (.iload 4, 2) := by decide +kernel
theorem dc_FB_health_70 : decode M_FB_health.2.1 70 = .ok (.ireturn, 1) := by decide +kernel
theorem dc_FB_health_26 : decode M_FB_health.2.1 26 = .ok (.aload_n 3, 1) := by decide +kernel
theorem dc_FB_health_27 : decode M_FB_health.2.1 27 = .ok (.getfield 177, 3) := by decide +kernel
theorem dc_FB_health_30 : decode M_FB_health.2.1 30 = .ok (.iload 5, 2) := by decide +kernel
theorem dc_FB_health_32 : decode M_FB_health.2.1 32 = .ok (.aaload, 1) := by decide +kernel
theorem dc_FB_health_33 : decode M_FB_health.2.1 33 = .ok (.astore 6, 2) := by decide +kernel
theorem dc_FB_health_35 : decode M_FB_health.2.1 35 = .ok (.aload_n 0, 1) := by decide +kernel
theorem dc_FB_health_36 : decode M_FB_health.2.1 36 = .ok (.aload 6, 2) := by decide +kernel
theorem dc_FB_health_38 : decode M_FB_health.2.1 38 = .ok (.invokevirtual 270, 3) := by decide +kernel
theorem dc_FB_health_41 : decode M_FB_health.2.1 41 = .ok (.ifCond .eq 21, 3) := by decide +kernel
theorem dc_FB_health_44 : decode M_FB_health.2.1 44 = .ok (.aload_n 0, 1) := by decide +kernel
theorem dc_FB_health_45 : decode M_FB_health.2.1 45 = .ok (.aload_n 3, 1) := by decide +kernel
theorem dc_FB_health_46 : decode M_FB_health.2.1 46 = .ok (.getfield 274, 3) := by decide +kernel
theorem kf_0_274 : rF 0 274 = some (7, 0) := by decide +kernel
theorem dc_FB_health_49 : decode M_FB_health.2.1 49 = .ok (.iload 5, 2) := by decide +kernel
theorem dc_FB_health_51 : decode M_FB_health.2.1 51 = .ok (.aload 6, 2) := by decide +kernel
theorem dc_FB_health_53 : decode M_FB_health.2.1 53 = .ok (.invokevirtual 277, 3) := by decide +kernel
theorem dc_FB_health_56 : decode M_FB_health.2.1 56 = .ok (.ifCond .eq 6, 3) := by decide +kernel
theorem dc_FB_health_59 : decode M_FB_health.2.1 59 = .ok (.iinc 4 1, 3) := by decide +kernel
theorem dc_FB_health_62 : decode M_FB_health.2.1 62 = .ok (.iinc 5 1, 3) := by decide +kernel
theorem dc_FB_health_65 : decode M_FB_health.2.1 65 = .ok (.goto (-49), 3) := by decide +kernel
theorem dc_La_keeper_0 : decode M_La_keeper.2.1 0 = .ok (.aload 4, 2) := by decide +kernel
theorem dc_La_keeper_2 : decode M_La_keeper.2.1 2 = .ok (.iconst 0, 1) := by decide +kernel
theorem dc_La_keeper_3 : decode M_La_keeper.2.1 3 = .ok (.aload_n 0, 1) := by decide +kernel
theorem dc_La_keeper_4 : decode M_La_keeper.2.1 4 = .ok (.iload_n 1, 1) := by decide +kernel
theorem dc_La_keeper_5 : decode M_La_keeper.2.1 5 = .ok (.iload_n 2, 1) := by decide +kernel
theorem dc_La_keeper_6 : decode M_La_keeper.2.1 6 = .ok (.iload_n 3, 1) := by decide +kernel
theorem dc_La_keeper_7 : decode M_La_keeper.2.1 7 = .ok (.invokevirtual 74, 3) := by decide +kernel
theorem km_11_74 : rM 11 74 = some (1, M_FB_keeper) := rM_at (j := 117) (p := 919) (by decide +kernel) rfl
theorem np_FB_keeper : nP M_FB_keeper = 3 := by decide +kernel
theorem dc_La_keeper_10 : decode M_La_keeper.2.1 10 = .ok (.i2l, 1) := by decide +kernel
theorem dc_La_keeper_11 : decode M_La_keeper.2.1 11 = .ok (.lastore, 1) := by decide +kernel
theorem dc_La_keeper_12 : decode M_La_keeper.2.1 12 = .ok (.goto 7, 3) := by decide +kernel
theorem dc_La_keeper_19 : decode M_La_keeper.2.1 19 = .ok (.iconst 0, 1) := by decide +kernel
theorem dc_La_keeper_20 : decode M_La_keeper.2.1 20 = .ok (.ireturn, 1) := by decide +kernel
theorem dc_La_keeper_15 : decode M_La_keeper.2.1 15 = .ok (.astore 5, 2) := by decide +kernel
theorem dc_La_keeper_17 : decode M_La_keeper.2.1 17 = .ok (.iconst 1, 1) := by decide +kernel
theorem dc_La_keeper_18 : decode M_La_keeper.2.1 18 = .ok (.ireturn, 1) := by decide +kernel
theorem dc_FB_keeper_0 : decode M_FB_keeper.2.1 0 = .ok (.aload_n 0, 1) := by decide +kernel
theorem dc_FB_keeper_1 : decode M_FB_keeper.2.1 1 = .ok (.iload_n 1, 1) := by decide +kernel
theorem dc_FB_keeper_2 : decode M_FB_keeper.2.1 2 = .ok (.invokevirtual 60, 3) := by decide +kernel
theorem dc_FB_keeper_5 : decode M_FB_keeper.2.1 5 = .ok (.iload_n 2, 1) := by decide +kernel
theorem dc_FB_keeper_6 : decode M_FB_keeper.2.1 6 = .ok (.invokestatic 166, 3) := by decide +kernel
theorem dc_FB_keeper_9 : decode M_FB_keeper.2.1 9 = .ok (.iload_n 3, 1) := by decide +kernel
theorem dc_FB_keeper_10 : decode M_FB_keeper.2.1 10 = .ok (.invokestatic 195, 3) := by decide +kernel
theorem dc_FB_keeper_13 : decode M_FB_keeper.2.1 13 = .ok (.getfield 206, 3) := by decide +kernel
theorem dc_FB_keeper_16 : decode M_FB_keeper.2.1 16 = .ok (.ireturn, 1) := by decide +kernel
theorem dc_La_count_0 : decode M_La_count.2.1 0 = .ok (.aload_n 3, 1) := by decide +kernel
theorem dc_La_count_1 : decode M_La_count.2.1 1 = .ok (.iconst 0, 1) := by decide +kernel
theorem dc_La_count_2 : decode M_La_count.2.1 2 = .ok (.aload_n 0, 1) := by decide +kernel
theorem dc_La_count_3 : decode M_La_count.2.1 3 = .ok (.iload_n 1, 1) := by decide +kernel
theorem dc_La_count_4 : decode M_La_count.2.1 4 = .ok (.iload_n 2, 1) := by decide +kernel
theorem dc_La_count_5 : decode M_La_count.2.1 5 = .ok (.invokevirtual 77, 3) := by decide +kernel
theorem km_11_77 : rM 11 77 = some (1, M_FB_count) := rM_at (j := 119) (p := 926) (by decide +kernel) rfl
theorem np_FB_count : nP M_FB_count = 2 := by decide +kernel
theorem dc_La_count_8 : decode M_La_count.2.1 8 = .ok (.i2l, 1) := by decide +kernel
theorem dc_La_count_9 : decode M_La_count.2.1 9 = .ok (.lastore, 1) := by decide +kernel
theorem dc_La_count_10 : decode M_La_count.2.1 10 = .ok (.goto 7, 3) := by decide +kernel
theorem dc_La_count_17 : decode M_La_count.2.1 17 = .ok (.iconst 0, 1) := by decide +kernel
theorem dc_La_count_18 : decode M_La_count.2.1 18 = .ok (.ireturn, 1) := by decide +kernel
theorem dc_La_count_13 : decode M_La_count.2.1 13 = .ok (.astore 4, 2) := by decide +kernel
theorem dc_La_count_15 : decode M_La_count.2.1 15 = .ok (.iconst 1, 1) := by decide +kernel
theorem dc_La_count_16 : decode M_La_count.2.1 16 = .ok (.ireturn, 1) := by decide +kernel
theorem dc_FB_count_0 : decode M_FB_count.2.1 0 = .ok (.aload_n 0, 1) := by decide +kernel
theorem dc_FB_count_1 : decode M_FB_count.2.1 1 = .ok (.iload_n 1, 1) := by decide +kernel
theorem dc_FB_count_2 : decode M_FB_count.2.1 2 = .ok (.invokevirtual 60, 3) := by decide +kernel
theorem dc_FB_count_5 : decode M_FB_count.2.1 5 = .ok (.astore_n 3, 1) := by decide +kernel
theorem dc_FB_count_6 : decode M_FB_count.2.1 6 = .ok (.iload_n 2, 1) := by decide +kernel
theorem dc_FB_count_7 : decode M_FB_count.2.1 7 = .ok (.iconst 0, 1) := by decide +kernel
theorem dc_FB_count_8 : decode M_FB_count.2.1 8 = .ok (.iconst 5, 1) := by decide +kernel
theorem dc_FB_count_9 : decode M_FB_count.2.1 9 = .ok (.invokestatic 39, 3) := by decide +kernel
theorem dc_FB_count_12 : decode M_FB_count.2.1 12 = .ok (.invokestatic 43, 3) := by decide +kernel
theorem dc_FB_count_15 : decode M_FB_count.2.1 15 = .ok (.iload_n 2, 1) := by decide +kernel
theorem dc_FB_count_16 : decode M_FB_count.2.1 16 = .ok (.tableswitch 67 0 4 #[36, 44, 49, 54, 59], 36) := by decide +kernel
theorem dc_FB_count_52 : decode M_FB_count.2.1 52 = .ok (.aload_n 3, 1) := by decide +kernel
theorem dc_FB_count_53 : decode M_FB_count.2.1 53 = .ok (.getfield 141, 3) := by decide +kernel
theorem dc_FB_count_56 : decode M_FB_count.2.1 56 = .ok (.invokevirtual 98, 3) := by decide +kernel
theorem dc_FB_count_59 : decode M_FB_count.2.1 59 = .ok (.ireturn, 1) := by decide +kernel
theorem dc_FB_count_60 : decode M_FB_count.2.1 60 = .ok (.aload_n 3, 1) := by decide +kernel
theorem dc_FB_count_61 : decode M_FB_count.2.1 61 = .ok (.invokevirtual 281, 3) := by decide +kernel
theorem km_0_281 : rM 0 281 = some (1, M_House_countUnfreed) := rM_at (j := 120) (p := 930) (by decide +kernel) rfl
theorem np_House_countUnfreed : nP M_House_countUnfreed = 0 := by decide +kernel
theorem dc_FB_count_64 : decode M_FB_count.2.1 64 = .ok (.ireturn, 1) := by decide +kernel
theorem dc_FB_count_65 : decode M_FB_count.2.1 65 = .ok (.aload_n 3, 1) := by decide +kernel
theorem dc_FB_count_66 : decode M_FB_count.2.1 66 = .ok (.invokevirtual 284, 3) := by decide +kernel
theorem km_0_284 : rM 0 284 = some (1, M_House_countHeld) := rM_at (j := 121) (p := 934) (by decide +kernel) rfl
theorem np_House_countHeld : nP M_House_countHeld = 0 := by decide +kernel
theorem dc_FB_count_69 : decode M_FB_count.2.1 69 = .ok (.ireturn, 1) := by decide +kernel
theorem dc_FB_count_70 : decode M_FB_count.2.1 70 = .ok (.aload_n 3, 1) := by decide +kernel
theorem dc_FB_count_71 : decode M_FB_count.2.1 71 = .ok (.getfield 104, 3) := by decide +kernel
theorem dc_FB_count_74 : decode M_FB_count.2.1 74 = .ok (.ireturn, 1) := by decide +kernel
theorem dc_FB_count_75 : decode M_FB_count.2.1 75 = .ok (.aload_n 3, 1) := by decide +kernel
theorem dc_FB_count_76 : decode M_FB_count.2.1 76 = .ok (.getfield 108, 3) := by decide +kernel
theorem dc_FB_count_79 : decode M_FB_count.2.1 79 = .ok (.invokevirtual 98, 3) := by decide +kernel
theorem dc_FB_count_82 : decode M_FB_count.2.1 82 = .ok (.ireturn, 1) := by decide +kernel
theorem dc_FB_count_83 : decode M_FB_count.2.1 83 = .ok (.aload_n 3, 1) := by decide +kernel
theorem dc_FB_count_84 : decode M_FB_count.2.1 84 = .ok (.invokevirtual 287, 3) := by decide +kernel
theorem dc_FB_count_87 : decode M_FB_count.2.1 87 = .ok (.ireturn, 1) := by decide +kernel
theorem dc_House_countUnfreed_0 : decode M_House_countUnfreed.2.1 0 = .ok (.iconst 0, 1) := by decide +kernel
theorem dc_House_countUnfreed_1 : decode M_House_countUnfreed.2.1 1 = .ok (.istore_n 1, 1) := by decide +kernel
theorem dc_House_countUnfreed_2 : decode M_House_countUnfreed.2.1 2 = .ok (.iconst 0, 1) := by decide +kernel
theorem dc_House_countUnfreed_3 : decode M_House_countUnfreed.2.1 3 = .ok (.istore_n 2, 1) := by decide +kernel
theorem dc_House_countUnfreed_4 : decode M_House_countUnfreed.2.1 4 = .ok (.iload_n 2, 1) := by decide +kernel
theorem dc_House_countUnfreed_5 : decode M_House_countUnfreed.2.1 5 = .ok (.aload_n 0, 1) := by decide +kernel
theorem dc_House_countUnfreed_6 : decode M_House_countUnfreed.2.1 6 = .ok (.getfield 36, 3) := by decide +kernel
theorem dc_House_countUnfreed_9 : decode M_House_countUnfreed.2.1 9 = .ok (.invokevirtual 56, 3) := by decide +kernel
theorem dc_House_countUnfreed_12 : decode M_House_countUnfreed.2.1 12 = .ok (.if_icmp .ge 29, 3) := by decide +kernel
theorem dc_House_countUnfreed_41 : decode M_House_countUnfreed.2.1 41 = .ok (.iload_n 1, 1) := by decide +kernel
theorem dc_House_countUnfreed_42 : decode M_House_countUnfreed.2.1 42 = .ok (.ireturn, 1) := by decide +kernel
theorem dc_House_countUnfreed_15 : decode M_House_countUnfreed.2.1 15 = .ok (.aload_n 0, 1) := by decide +kernel
theorem dc_House_countUnfreed_16 : decode M_House_countUnfreed.2.1 16 = .ok (.getfield 36, 3) := by decide +kernel
theorem dc_House_countUnfreed_19 : decode M_House_countUnfreed.2.1 19 = .ok (.iload_n 2, 1) := by decide +kernel
theorem dc_House_countUnfreed_20 : decode M_House_countUnfreed.2.1 20 = .ok (.invokevirtual 60, 3) := by decide +kernel
theorem dc_House_countUnfreed_23 : decode M_House_countUnfreed.2.1 23 = .ok (.checkcast 64, 3) := by decide +kernel
theorem dc_House_countUnfreed_26 : decode M_House_countUnfreed.2.1 26 = .ok (.getfield 66, 3) := by decide +kernel
theorem kf_5_66 : rF 5 66 = some (7, 4) := by decide +kernel
theorem dc_House_countUnfreed_29 : decode M_House_countUnfreed.2.1 29 = .ok (.ifCond .ne 6, 3) := by decide +kernel
theorem dc_House_countUnfreed_32 : decode M_House_countUnfreed.2.1 32 = .ok (.iinc 1 1, 3) := by decide +kernel
theorem dc_House_countUnfreed_35 : decode M_House_countUnfreed.2.1 35 = .ok (.iinc 2 1, 3) := by decide +kernel
theorem dc_House_countUnfreed_38 : decode M_House_countUnfreed.2.1 38 = .ok (.goto (-34), 3) := by decide +kernel
theorem dc_House_countHeld_0 : decode M_House_countHeld.2.1 0 = .ok (.iconst 0, 1) := by decide +kernel
theorem dc_House_countHeld_1 : decode M_House_countHeld.2.1 1 = .ok (.istore_n 1, 1) := by decide +kernel
theorem dc_House_countHeld_2 : decode M_House_countHeld.2.1 2 = .ok (.iconst 0, 1) := by decide +kernel
theorem dc_House_countHeld_3 : decode M_House_countHeld.2.1 3 = .ok (.istore_n 2, 1) := by decide +kernel
theorem dc_House_countHeld_4 : decode M_House_countHeld.2.1 4 = .ok (.iload_n 2, 1) := by decide +kernel
theorem dc_House_countHeld_5 : decode M_House_countHeld.2.1 5 = .ok (.aload_n 0, 1) := by decide +kernel
theorem dc_House_countHeld_6 : decode M_House_countHeld.2.1 6 = .ok (.getfield 36, 3) := by decide +kernel
theorem dc_House_countHeld_9 : decode M_House_countHeld.2.1 9 = .ok (.invokevirtual 56, 3) := by decide +kernel
theorem dc_House_countHeld_12 : decode M_House_countHeld.2.1 12 = .ok (.if_icmp .ge 29, 3) := by decide +kernel
theorem dc_House_countHeld_41 : decode M_House_countHeld.2.1 41 = .ok (.iload_n 1, 1) := by decide +kernel
theorem dc_House_countHeld_42 : decode M_House_countHeld.2.1 42 = .ok (.ireturn, 1) := by decide +kernel
theorem dc_House_countHeld_15 : decode M_House_countHeld.2.1 15 = .ok (.aload_n 0, 1) := by decide +kernel
theorem dc_House_countHeld_16 : decode M_House_countHeld.2.1 16 = .ok (.getfield 36, 3) := by decide +kernel
theorem dc_House_countHeld_19 : decode M_House_countHeld.2.1 19 = .ok (.iload_n 2, 1) := by decide +kernel
theorem dc_House_countHeld_20 : decode M_House_countHeld.2.1 20 = .ok (.invokevirtual 60, 3) := by decide +kernel
theorem dc_House_countHeld_23 : decode M_House_countHeld.2.1 23 = .ok (.checkcast 64, 3) := by decide +kernel
theorem dc_House_countHeld_26 : decode M_House_countHeld.2.1 26 = .ok (.getfield 69, 3) := by decide +kernel
theorem dc_House_countHeld_29 : decode M_House_countHeld.2.1 29 = .ok (.ifCond .eq 6, 3) := by decide +kernel
theorem dc_House_countHeld_32 : decode M_House_countHeld.2.1 32 = .ok (.iinc 1 1, 3) := by decide +kernel
theorem dc_House_countHeld_35 : decode M_House_countHeld.2.1 35 = .ok (.iinc 2 1, 3) := by decide +kernel
theorem dc_House_countHeld_38 : decode M_House_countHeld.2.1 38 = .ok (.goto (-34), 3) := by decide +kernel
theorem dc_La_stored_0 : decode M_La_stored.2.1 0 = .ok (.aload_n 3, 1) := by decide +kernel
theorem dc_La_stored_1 : decode M_La_stored.2.1 1 = .ok (.iconst 0, 1) := by decide +kernel
theorem dc_La_stored_2 : decode M_La_stored.2.1 2 = .ok (.aload_n 0, 1) := by decide +kernel
theorem dc_La_stored_3 : decode M_La_stored.2.1 3 = .ok (.iload_n 1, 1) := by decide +kernel
theorem dc_La_stored_4 : decode M_La_stored.2.1 4 = .ok (.iload_n 2, 1) := by decide +kernel
theorem dc_La_stored_5 : decode M_La_stored.2.1 5 = .ok (.invokevirtual 80, 3) := by decide +kernel
theorem km_11_80 : rM 11 80 = some (1, M_FB_stored) := rM_at (j := 123) (p := 941) (by decide +kernel) rfl
theorem np_FB_stored : nP M_FB_stored = 2 := by decide +kernel
theorem dc_La_stored_8 : decode M_La_stored.2.1 8 = .ok (.i2l, 1) := by decide +kernel
theorem dc_La_stored_9 : decode M_La_stored.2.1 9 = .ok (.lastore, 1) := by decide +kernel
theorem dc_La_stored_10 : decode M_La_stored.2.1 10 = .ok (.goto 7, 3) := by decide +kernel
theorem dc_La_stored_17 : decode M_La_stored.2.1 17 = .ok (.iconst 0, 1) := by decide +kernel
theorem dc_La_stored_18 : decode M_La_stored.2.1 18 = .ok (.ireturn, 1) := by decide +kernel
theorem dc_La_stored_13 : decode M_La_stored.2.1 13 = .ok (.astore 4, 2) := by decide +kernel
theorem dc_La_stored_15 : decode M_La_stored.2.1 15 = .ok (.iconst 1, 1) := by decide +kernel
theorem dc_La_stored_16 : decode M_La_stored.2.1 16 = .ok (.ireturn, 1) := by decide +kernel
theorem dc_FB_stored_0 : decode M_FB_stored.2.1 0 = .ok (.aload_n 0, 1) := by decide +kernel
theorem dc_FB_stored_1 : decode M_FB_stored.2.1 1 = .ok (.iload_n 1, 1) := by decide +kernel
theorem dc_FB_stored_2 : decode M_FB_stored.2.1 2 = .ok (.invokevirtual 60, 3) := by decide +kernel
theorem dc_FB_stored_5 : decode M_FB_stored.2.1 5 = .ok (.astore_n 3, 1) := by decide +kernel
theorem dc_FB_stored_6 : decode M_FB_stored.2.1 6 = .ok (.aload_n 0, 1) := by decide +kernel
theorem dc_FB_stored_7 : decode M_FB_stored.2.1 7 = .ok (.iload_n 2, 1) := by decide +kernel
theorem dc_FB_stored_8 : decode M_FB_stored.2.1 8 = .ok (.invokevirtual 60, 3) := by decide +kernel
theorem dc_FB_stored_11 : decode M_FB_stored.2.1 11 = .ok (.astore 4, 2) := by decide +kernel
theorem dc_FB_stored_13 : decode M_FB_stored.2.1 13 = .ok (.aload_n 3, 1) := by decide +kernel
theorem dc_FB_stored_14 : decode M_FB_stored.2.1 14 = .ok (.getfield 160, 3) := by decide +kernel
theorem dc_FB_stored_17 : decode M_FB_stored.2.1 17 = .ok (.aload 4, 2) := by decide +kernel
theorem dc_FB_stored_19 : decode M_FB_stored.2.1 19 = .ok (.getfield 290, 3) := by decide +kernel
theorem dc_FB_stored_22 : decode M_FB_stored.2.1 22 = .ok (.iaload, 1) := by decide +kernel
theorem dc_FB_stored_23 : decode M_FB_stored.2.1 23 = .ok (.ireturn, 1) := by decide +kernel
theorem dc_La_settle_0 : decode M_La_settle.2.1 0 = .ok (.aload_n 0, 1) := by decide +kernel
theorem dc_La_settle_1 : decode M_La_settle.2.1 1 = .ok (.iload_n 1, 1) := by decide +kernel
theorem dc_La_settle_2 : decode M_La_settle.2.1 2 = .ok (.invokevirtual 83, 3) := by decide +kernel
theorem km_11_83 : rM 11 83 = some (1, M_FB_settle) := rM_at (j := 125) (p := 948) (by decide +kernel) rfl
theorem np_FB_settle : nP M_FB_settle = 1 := by decide +kernel
theorem dc_La_settle_5 : decode M_La_settle.2.1 5 = .ok (.goto 6, 3) := by decide +kernel
theorem dc_La_settle_11 : decode M_La_settle.2.1 11 = .ok (.iconst 0, 1) := by decide +kernel
theorem dc_La_settle_12 : decode M_La_settle.2.1 12 = .ok (.ireturn, 1) := by decide +kernel
theorem dc_La_settle_8 : decode M_La_settle.2.1 8 = .ok (.astore_n 2, 1) := by decide +kernel
theorem dc_La_settle_9 : decode M_La_settle.2.1 9 = .ok (.iconst 1, 1) := by decide +kernel
theorem dc_La_settle_10 : decode M_La_settle.2.1 10 = .ok (.ireturn, 1) := by decide +kernel
theorem dc_FB_settle_0 : decode M_FB_settle.2.1 0 = .ok (.iload_n 1, 1) := by decide +kernel
theorem dc_FB_settle_1 : decode M_FB_settle.2.1 1 = .ok (.aload_n 0, 1) := by decide +kernel
theorem dc_FB_settle_2 : decode M_FB_settle.2.1 2 = .ok (.getfield 293, 3) := by decide +kernel
theorem kf_0_293 : rF 0 293 = some (0, 8) := by decide +kernel
theorem dc_FB_settle_5 : decode M_FB_settle.2.1 5 = .ok (.sipush 10000, 3) := by decide +kernel
theorem k_sipush_10000 : (Int16.ofInt 10000).toInt32.toInt = 10000 := by decide
theorem dc_FB_settle_8 : decode M_FB_settle.2.1 8 = .ok (.invokestatic 39, 3) := by decide +kernel
theorem dc_FB_settle_11 : decode M_FB_settle.2.1 11 = .ok (.invokestatic 43, 3) := by decide +kernel
theorem dc_FB_settle_14 : decode M_FB_settle.2.1 14 = .ok (.iconst 0, 1) := by decide +kernel
theorem dc_FB_settle_15 : decode M_FB_settle.2.1 15 = .ok (.istore_n 2, 1) := by decide +kernel
theorem dc_FB_settle_16 : decode M_FB_settle.2.1 16 = .ok (.iload_n 2, 1) := by decide +kernel
theorem dc_FB_settle_17 : decode M_FB_settle.2.1 17 = .ok (.bipush 10, 2) := by decide +kernel
theorem dc_FB_settle_19 : decode M_FB_settle.2.1 19 = .ok (.if_icmp .ge 33, 3) := by decide +kernel
theorem dc_FB_settle_52 : decode M_FB_settle.2.1 52 = .ok (.aload_n 0, 1) := by decide +kernel
theorem dc_FB_settle_53 : decode M_FB_settle.2.1 53 = .ok (.iload_n 1, 1) := by decide +kernel
theorem dc_FB_settle_54 : decode M_FB_settle.2.1 54 = .ok (.putfield 293, 3) := by decide +kernel
theorem kp_FB_settle_0_8 : fpB M_FB_settle 0 8 = true := by decide +kernel
theorem dc_FB_settle_57 : decode M_FB_settle.2.1 57 = .ok (.return_, 1) := by decide +kernel
theorem kiI_0_8 {z : Int} : fitB 0 8 (vI z) = true := fi_I (by decide +kernel)
theorem dc_FB_settle_22 : decode M_FB_settle.2.1 22 = .ok (.aload_n 0, 1) := by decide +kernel
theorem dc_FB_settle_23 : decode M_FB_settle.2.1 23 = .ok (.getfield 11, 3) := by decide +kernel
theorem dc_FB_settle_26 : decode M_FB_settle.2.1 26 = .ok (.iload_n 2, 1) := by decide +kernel
theorem dc_FB_settle_27 : decode M_FB_settle.2.1 27 = .ok (.aaload, 1) := by decide +kernel
theorem dc_FB_settle_28 : decode M_FB_settle.2.1 28 = .ok (.ifnull 18, 3) := by decide +kernel
theorem dc_FB_settle_31 : decode M_FB_settle.2.1 31 = .ok (.aload_n 0, 1) := by decide +kernel
theorem dc_FB_settle_32 : decode M_FB_settle.2.1 32 = .ok (.getfield 11, 3) := by decide +kernel
theorem dc_FB_settle_35 : decode M_FB_settle.2.1 35 = .ok (.iload_n 2, 1) := by decide +kernel
theorem dc_FB_settle_36 : decode M_FB_settle.2.1 36 = .ok (.aaload, 1) := by decide +kernel
theorem dc_FB_settle_37 : decode M_FB_settle.2.1 37 = .ok (.iload_n 1, 1) := by decide +kernel
theorem dc_FB_settle_38 : decode M_FB_settle.2.1 38 = .ok (.aload_n 0, 1) := by decide +kernel
theorem dc_FB_settle_39 : decode M_FB_settle.2.1 39 = .ok (.getfield 293, 3) := by decide +kernel
theorem dc_FB_settle_42 : decode M_FB_settle.2.1 42 = .ok (.isub, 1) := by decide +kernel
theorem dc_FB_settle_43 : decode M_FB_settle.2.1 43 = .ok (.invokevirtual 296, 3) := by decide +kernel
theorem km_0_296 : rM 0 296 = some (1, M_House_addDays) := rM_at (j := 126) (p := 952) (by decide +kernel) rfl
theorem np_House_addDays : nP M_House_addDays = 1 := by decide +kernel
theorem dc_FB_settle_46 : decode M_FB_settle.2.1 46 = .ok (.iinc 2 1, 3) := by decide +kernel
theorem dc_FB_settle_49 : decode M_FB_settle.2.1 49 = .ok (.goto (-33), 3) := by decide +kernel
theorem dc_House_addDays_0 : decode M_House_addDays.2.1 0 = .ok (.iconst 0, 1) := by decide +kernel
theorem dc_House_addDays_1 : decode M_House_addDays.2.1 1 = .ok (.istore_n 2, 1) := by decide +kernel
theorem dc_House_addDays_2 : decode M_House_addDays.2.1 2 = .ok (.iload_n 2, 1) := by decide +kernel
theorem dc_House_addDays_3 : decode M_House_addDays.2.1 3 = .ok (.bipush 10, 2) := by decide +kernel
theorem dc_House_addDays_5 : decode M_House_addDays.2.1 5 = .ok (.if_icmp .ge 26, 3) := by decide +kernel
theorem dc_House_addDays_31 : decode M_House_addDays.2.1 31 = .ok (.return_, 1) := by decide +kernel
theorem dc_House_addDays_8 : decode M_House_addDays.2.1 8 = .ok (.aload_n 0, 1) := by decide +kernel
theorem dc_House_addDays_9 : decode M_House_addDays.2.1 9 = .ok (.getfield 18, 3) := by decide +kernel
theorem dc_House_addDays_12 : decode M_House_addDays.2.1 12 = .ok (.iload_n 2, 1) := by decide +kernel
theorem dc_House_addDays_13 : decode M_House_addDays.2.1 13 = .ok (.dup2, 1) := by decide +kernel
theorem dc_House_addDays_14 : decode M_House_addDays.2.1 14 = .ok (.iaload, 1) := by decide +kernel
theorem dc_House_addDays_15 : decode M_House_addDays.2.1 15 = .ok (.iload_n 1, 1) := by decide +kernel
theorem dc_House_addDays_16 : decode M_House_addDays.2.1 16 = .ok (.aload_n 0, 1) := by decide +kernel
theorem dc_House_addDays_17 : decode M_House_addDays.2.1 17 = .ok (.getfield 15, 3) := by decide +kernel
theorem dc_House_addDays_20 : decode M_House_addDays.2.1 20 = .ok (.iload_n 2, 1) := by decide +kernel
theorem dc_House_addDays_21 : decode M_House_addDays.2.1 21 = .ok (.iaload, 1) := by decide +kernel
theorem dc_House_addDays_22 : decode M_House_addDays.2.1 22 = .ok (.imul, 1) := by decide +kernel
theorem dc_House_addDays_23 : decode M_House_addDays.2.1 23 = .ok (.iadd, 1) := by decide +kernel
theorem dc_House_addDays_24 : decode M_House_addDays.2.1 24 = .ok (.iastore, 1) := by decide +kernel
theorem dc_House_addDays_25 : decode M_House_addDays.2.1 25 = .ok (.iinc 2 1, 3) := by decide +kernel
theorem dc_House_addDays_28 : decode M_House_addDays.2.1 28 = .ok (.goto (-26), 3) := by decide +kernel
theorem dc_La_balance_0 : decode M_La_balance.2.1 0 = .ok (.aload_n 3, 1) := by decide +kernel
theorem dc_La_balance_1 : decode M_La_balance.2.1 1 = .ok (.iconst 0, 1) := by decide +kernel
theorem dc_La_balance_2 : decode M_La_balance.2.1 2 = .ok (.aload_n 0, 1) := by decide +kernel
theorem dc_La_balance_3 : decode M_La_balance.2.1 3 = .ok (.iload_n 1, 1) := by decide +kernel
theorem dc_La_balance_4 : decode M_La_balance.2.1 4 = .ok (.iload_n 2, 1) := by decide +kernel
theorem dc_La_balance_5 : decode M_La_balance.2.1 5 = .ok (.invokevirtual 86, 3) := by decide +kernel
theorem km_11_86 : rM 11 86 = some (1, M_FB_balance) := rM_at (j := 128) (p := 959) (by decide +kernel) rfl
theorem np_FB_balance : nP M_FB_balance = 2 := by decide +kernel
theorem dc_La_balance_8 : decode M_La_balance.2.1 8 = .ok (.i2l, 1) := by decide +kernel
theorem dc_La_balance_9 : decode M_La_balance.2.1 9 = .ok (.lastore, 1) := by decide +kernel
theorem dc_La_balance_10 : decode M_La_balance.2.1 10 = .ok (.goto 7, 3) := by decide +kernel
theorem dc_La_balance_17 : decode M_La_balance.2.1 17 = .ok (.iconst 0, 1) := by decide +kernel
theorem dc_La_balance_18 : decode M_La_balance.2.1 18 = .ok (.ireturn, 1) := by decide +kernel
theorem dc_La_balance_13 : decode M_La_balance.2.1 13 = .ok (.astore 4, 2) := by decide +kernel
theorem dc_La_balance_15 : decode M_La_balance.2.1 15 = .ok (.iconst 1, 1) := by decide +kernel
theorem dc_La_balance_16 : decode M_La_balance.2.1 16 = .ok (.ireturn, 1) := by decide +kernel
theorem dc_FB_balance_0 : decode M_FB_balance.2.1 0 = .ok (.aload_n 0, 1) := by decide +kernel
theorem dc_FB_balance_1 : decode M_FB_balance.2.1 1 = .ok (.iload_n 1, 1) := by decide +kernel
theorem dc_FB_balance_2 : decode M_FB_balance.2.1 2 = .ok (.invokevirtual 60, 3) := by decide +kernel
theorem dc_FB_balance_5 : decode M_FB_balance.2.1 5 = .ok (.astore_n 3, 1) := by decide +kernel
theorem dc_FB_balance_6 : decode M_FB_balance.2.1 6 = .ok (.aload_n 0, 1) := by decide +kernel
theorem dc_FB_balance_7 : decode M_FB_balance.2.1 7 = .ok (.iload_n 2, 1) := by decide +kernel
theorem dc_FB_balance_8 : decode M_FB_balance.2.1 8 = .ok (.invokevirtual 60, 3) := by decide +kernel
theorem dc_FB_balance_11 : decode M_FB_balance.2.1 11 = .ok (.astore 4, 2) := by decide +kernel
theorem dc_FB_balance_13 : decode M_FB_balance.2.1 13 = .ok (.aload_n 3, 1) := by decide +kernel
theorem dc_FB_balance_14 : decode M_FB_balance.2.1 14 = .ok (.getfield 299, 3) := by decide +kernel
theorem kf_0_299 : rF 0 299 = some (5, 4) := by decide +kernel
theorem dc_FB_balance_17 : decode M_FB_balance.2.1 17 = .ok (.iload_n 2, 1) := by decide +kernel
theorem dc_FB_balance_18 : decode M_FB_balance.2.1 18 = .ok (.iaload, 1) := by decide +kernel
theorem dc_FB_balance_19 : decode M_FB_balance.2.1 19 = .ok (.aload 4, 2) := by decide +kernel
theorem dc_FB_balance_21 : decode M_FB_balance.2.1 21 = .ok (.getfield 299, 3) := by decide +kernel
theorem dc_FB_balance_24 : decode M_FB_balance.2.1 24 = .ok (.iload_n 1, 1) := by decide +kernel
theorem dc_FB_balance_25 : decode M_FB_balance.2.1 25 = .ok (.iaload, 1) := by decide +kernel
theorem dc_FB_balance_26 : decode M_FB_balance.2.1 26 = .ok (.isub, 1) := by decide +kernel
theorem dc_FB_balance_27 : decode M_FB_balance.2.1 27 = .ok (.ireturn, 1) := by decide +kernel
theorem dc_Mo_init_0 : decode M_Mo_init.2.1 0 = .ok (.aload_n 0, 1) := by decide +kernel
theorem dc_Mo_init_1 : decode M_Mo_init.2.1 1 = .ok (.invokespecial 1, 3) := by decide +kernel
theorem km_9_1 : rM 9 1 = some (3, M_FB_init) := rM_at (j := 0) (p := 968) (by decide +kernel) rfl
theorem dc_Mo_init_4 : decode M_Mo_init.2.1 4 = .ok (.aload_n 0, 1) := by decide +kernel
theorem dc_Mo_init_5 : decode M_Mo_init.2.1 5 = .ok (.iconst 2, 1) := by decide +kernel
theorem dc_Mo_init_6 : decode M_Mo_init.2.1 6 = .ok (.putfield 7, 3) := by decide +kernel
theorem kf_9_7 : rF 9 7 = some (9, 2) := by decide +kernel
theorem kp_Mo_init_9_2 : fpB M_Mo_init 9 2 = true := by decide +kernel
theorem dc_Mo_init_9 : decode M_Mo_init.2.1 9 = .ok (.aload_n 0, 1) := by decide +kernel
theorem dc_Mo_init_10 : decode M_Mo_init.2.1 10 = .ok (.iconst 4, 1) := by decide +kernel
theorem dc_Mo_init_11 : decode M_Mo_init.2.1 11 = .ok (.putfield 13, 3) := by decide +kernel
theorem kf_9_13 : rF 9 13 = some (9, 3) := by decide +kernel
theorem kp_Mo_init_9_3 : fpB M_Mo_init 9 3 = true := by decide +kernel
theorem dc_Mo_init_14 : decode M_Mo_init.2.1 14 = .ok (.aload_n 0, 1) := by decide +kernel
theorem dc_Mo_init_15 : decode M_Mo_init.2.1 15 = .ok (.bipush 10, 2) := by decide +kernel
theorem dc_Mo_init_17 : decode M_Mo_init.2.1 17 = .ok (.newarray .int, 2) := by decide +kernel
theorem dc_Mo_init_19 : decode M_Mo_init.2.1 19 = .ok (.putfield 16, 3) := by decide +kernel
theorem kf_9_16 : rF 9 16 = some (9, 5) := by decide +kernel
theorem kp_Mo_init_9_5 : fpB M_Mo_init 9 5 = true := by decide +kernel
theorem dc_Mo_init_22 : decode M_Mo_init.2.1 22 = .ok (.aload_n 0, 1) := by decide +kernel
theorem dc_Mo_init_23 : decode M_Mo_init.2.1 23 = .ok (.bipush 10, 2) := by decide +kernel
theorem dc_Mo_init_25 : decode M_Mo_init.2.1 25 = .ok (.newarray .boolean, 2) := by decide +kernel
theorem dc_Mo_init_27 : decode M_Mo_init.2.1 27 = .ok (.putfield 20, 3) := by decide +kernel
theorem kf_9_20 : rF 9 20 = some (9, 6) := by decide +kernel
theorem kp_Mo_init_9_6 : fpB M_Mo_init 9 6 = true := by decide +kernel
theorem dc_Mo_init_30 : decode M_Mo_init.2.1 30 = .ok (.aload_n 0, 1) := by decide +kernel
theorem dc_Mo_init_31 : decode M_Mo_init.2.1 31 = .ok (.bipush 10, 2) := by decide +kernel
theorem dc_Mo_init_33 : decode M_Mo_init.2.1 33 = .ok (.newarray .boolean, 2) := by decide +kernel
theorem dc_Mo_init_35 : decode M_Mo_init.2.1 35 = .ok (.putfield 24, 3) := by decide +kernel
theorem kf_9_24 : rF 9 24 = some (9, 7) := by decide +kernel
theorem kp_Mo_init_9_7 : fpB M_Mo_init 9 7 = true := by decide +kernel
theorem dc_Mo_init_38 : decode M_Mo_init.2.1 38 = .ok (.aload_n 0, 1) := by decide +kernel
theorem dc_Mo_init_39 : decode M_Mo_init.2.1 39 = .ok (.bipush 10, 2) := by decide +kernel
theorem dc_Mo_init_41 : decode M_Mo_init.2.1 41 = .ok (.newarray .boolean, 2) := by decide +kernel
theorem dc_Mo_init_43 : decode M_Mo_init.2.1 43 = .ok (.putfield 27, 3) := by decide +kernel
theorem kf_9_27 : rF 9 27 = some (9, 8) := by decide +kernel
theorem kp_Mo_init_9_8 : fpB M_Mo_init 9 8 = true := by decide +kernel
theorem dc_Mo_init_46 : decode M_Mo_init.2.1 46 = .ok (.aload_n 0, 1) := by decide +kernel
theorem dc_Mo_init_47 : decode M_Mo_init.2.1 47 = .ok (.bipush 100, 2) := by decide +kernel
theorem dc_Mo_init_49 : decode M_Mo_init.2.1 49 = .ok (.newarray .int, 2) := by decide +kernel
theorem dc_Mo_init_51 : decode M_Mo_init.2.1 51 = .ok (.putfield 30, 3) := by decide +kernel
theorem kf_9_30 : rF 9 30 = some (9, 9) := by decide +kernel
theorem kp_Mo_init_9_9 : fpB M_Mo_init 9 9 = true := by decide +kernel
theorem dc_Mo_init_54 : decode M_Mo_init.2.1 54 = .ok (.aload_n 0, 1) := by decide +kernel
theorem dc_Mo_init_55 : decode M_Mo_init.2.1 55 = .ok (.bipush 100, 2) := by decide +kernel
theorem dc_Mo_init_57 : decode M_Mo_init.2.1 57 = .ok (.newarray .int, 2) := by decide +kernel
theorem dc_Mo_init_59 : decode M_Mo_init.2.1 59 = .ok (.putfield 33, 3) := by decide +kernel
theorem kf_9_33 : rF 9 33 = some (9, 10) := by decide +kernel
theorem kp_Mo_init_9_10 : fpB M_Mo_init 9 10 = true := by decide +kernel
theorem dc_Mo_init_62 : decode M_Mo_init.2.1 62 = .ok (.aload_n 0, 1) := by decide +kernel
theorem dc_Mo_init_63 : decode M_Mo_init.2.1 63 = .ok (.bipush 100, 2) := by decide +kernel
theorem dc_Mo_init_65 : decode M_Mo_init.2.1 65 = .ok (.newarray .int, 2) := by decide +kernel
theorem dc_Mo_init_67 : decode M_Mo_init.2.1 67 = .ok (.putfield 36, 3) := by decide +kernel
theorem kf_9_36 : rF 9 36 = some (9, 11) := by decide +kernel
theorem kp_Mo_init_9_11 : fpB M_Mo_init 9 11 = true := by decide +kernel
theorem dc_Mo_init_70 : decode M_Mo_init.2.1 70 = .ok (.aload_n 0, 1) := by decide +kernel
theorem dc_Mo_init_71 : decode M_Mo_init.2.1 71 = .ok (.bipush 100, 2) := by decide +kernel
theorem dc_Mo_init_73 : decode M_Mo_init.2.1 73 = .ok (.newarray .boolean, 2) := by decide +kernel
theorem dc_Mo_init_75 : decode M_Mo_init.2.1 75 = .ok (.putfield 39, 3) := by decide +kernel
theorem kf_9_39 : rF 9 39 = some (9, 12) := by decide +kernel
theorem kp_Mo_init_9_12 : fpB M_Mo_init 9 12 = true := by decide +kernel
theorem dc_Mo_init_78 : decode M_Mo_init.2.1 78 = .ok (.aload_n 0, 1) := by decide +kernel
theorem dc_Mo_init_79 : decode M_Mo_init.2.1 79 = .ok (.bipush 100, 2) := by decide +kernel
theorem dc_Mo_init_81 : decode M_Mo_init.2.1 81 = .ok (.newarray .int, 2) := by decide +kernel
theorem dc_Mo_init_83 : decode M_Mo_init.2.1 83 = .ok (.putfield 42, 3) := by decide +kernel
theorem kf_9_42 : rF 9 42 = some (9, 13) := by decide +kernel
theorem kp_Mo_init_9_13 : fpB M_Mo_init 9 13 = true := by decide +kernel
theorem dc_Mo_init_86 : decode M_Mo_init.2.1 86 = .ok (.aload_n 0, 1) := by decide +kernel
theorem dc_Mo_init_87 : decode M_Mo_init.2.1 87 = .ok (.sipush 20000, 3) := by decide +kernel
theorem k_sipush_20000 : (Int16.ofInt 20000).toInt32.toInt = 20000 := by decide
theorem dc_Mo_init_90 : decode M_Mo_init.2.1 90 = .ok (.newarray .int, 2) := by decide +kernel
theorem dc_Mo_init_92 : decode M_Mo_init.2.1 92 = .ok (.putfield 45, 3) := by decide +kernel
theorem kf_9_45 : rF 9 45 = some (9, 14) := by decide +kernel
theorem kp_Mo_init_9_14 : fpB M_Mo_init 9 14 = true := by decide +kernel
theorem dc_Mo_init_95 : decode M_Mo_init.2.1 95 = .ok (.aload_n 0, 1) := by decide +kernel
theorem dc_Mo_init_96 : decode M_Mo_init.2.1 96 = .ok (.bipush 10, 2) := by decide +kernel
theorem dc_Mo_init_98 : decode M_Mo_init.2.1 98 = .ok (.newarray .int, 2) := by decide +kernel
theorem dc_Mo_init_100 : decode M_Mo_init.2.1 100 = .ok (.putfield 48, 3) := by decide +kernel
theorem kf_9_48 : rF 9 48 = some (9, 15) := by decide +kernel
theorem kp_Mo_init_9_15 : fpB M_Mo_init 9 15 = true := by decide +kernel
theorem dc_Mo_init_103 : decode M_Mo_init.2.1 103 = .ok (.aload_n 0, 1) := by decide +kernel
theorem dc_Mo_init_104 : decode M_Mo_init.2.1 104 = .ok (.bipush 60, 2) := by decide +kernel
theorem dc_Mo_init_106 : decode M_Mo_init.2.1 106 = .ok (.newarray .int, 2) := by decide +kernel
theorem dc_Mo_init_108 : decode M_Mo_init.2.1 108 = .ok (.putfield 51, 3) := by decide +kernel
theorem kf_9_51 : rF 9 51 = some (9, 16) := by decide +kernel
theorem kp_Mo_init_9_16 : fpB M_Mo_init 9 16 = true := by decide +kernel
theorem dc_Mo_init_111 : decode M_Mo_init.2.1 111 = .ok (.aload_n 0, 1) := by decide +kernel
theorem dc_Mo_init_112 : decode M_Mo_init.2.1 112 = .ok (.sipush 600, 3) := by decide +kernel
theorem k_sipush_600 : (Int16.ofInt 600).toInt32.toInt = 600 := by decide
theorem dc_Mo_init_115 : decode M_Mo_init.2.1 115 = .ok (.newarray .int, 2) := by decide +kernel
theorem dc_Mo_init_117 : decode M_Mo_init.2.1 117 = .ok (.putfield 54, 3) := by decide +kernel
theorem kf_9_54 : rF 9 54 = some (9, 17) := by decide +kernel
theorem kp_Mo_init_9_17 : fpB M_Mo_init 9 17 = true := by decide +kernel
theorem dc_Mo_init_120 : decode M_Mo_init.2.1 120 = .ok (.aload_n 0, 1) := by decide +kernel
theorem dc_Mo_init_121 : decode M_Mo_init.2.1 121 = .ok (.sipush 30000, 3) := by decide +kernel
theorem k_sipush_30000 : (Int16.ofInt 30000).toInt32.toInt = 30000 := by decide
theorem dc_Mo_init_124 : decode M_Mo_init.2.1 124 = .ok (.newarray .int, 2) := by decide +kernel
theorem dc_Mo_init_126 : decode M_Mo_init.2.1 126 = .ok (.putfield 57, 3) := by decide +kernel
theorem kf_9_57 : rF 9 57 = some (9, 18) := by decide +kernel
theorem kp_Mo_init_9_18 : fpB M_Mo_init 9 18 = true := by decide +kernel
theorem dc_Mo_init_129 : decode M_Mo_init.2.1 129 = .ok (.aload_n 0, 1) := by decide +kernel
theorem dc_Mo_init_130 : decode M_Mo_init.2.1 130 = .ok (.sipush 30000, 3) := by decide +kernel
theorem dc_Mo_init_133 : decode M_Mo_init.2.1 133 = .ok (.newarray .int, 2) := by decide +kernel
theorem dc_Mo_init_135 : decode M_Mo_init.2.1 135 = .ok (.putfield 60, 3) := by decide +kernel
theorem kf_9_60 : rF 9 60 = some (9, 19) := by decide +kernel
theorem kp_Mo_init_9_19 : fpB M_Mo_init 9 19 = true := by decide +kernel
theorem dc_Mo_init_138 : decode M_Mo_init.2.1 138 = .ok (.aload_n 0, 1) := by decide +kernel
theorem dc_Mo_init_139 : decode M_Mo_init.2.1 139 = .ok (.bipush 10, 2) := by decide +kernel
theorem dc_Mo_init_141 : decode M_Mo_init.2.1 141 = .ok (.newarray .int, 2) := by decide +kernel
theorem dc_Mo_init_143 : decode M_Mo_init.2.1 143 = .ok (.putfield 63, 3) := by decide +kernel
theorem kf_9_63 : rF 9 63 = some (9, 20) := by decide +kernel
theorem kp_Mo_init_9_20 : fpB M_Mo_init 9 20 = true := by decide +kernel
theorem dc_Mo_init_146 : decode M_Mo_init.2.1 146 = .ok (.aload_n 0, 1) := by decide +kernel
theorem dc_Mo_init_147 : decode M_Mo_init.2.1 147 = .ok (.sipush 400, 3) := by decide +kernel
theorem dc_Mo_init_150 : decode M_Mo_init.2.1 150 = .ok (.newarray .boolean, 2) := by decide +kernel
theorem dc_Mo_init_152 : decode M_Mo_init.2.1 152 = .ok (.putfield 66, 3) := by decide +kernel
theorem kf_9_66 : rF 9 66 = some (9, 21) := by decide +kernel
theorem kp_Mo_init_9_21 : fpB M_Mo_init 9 21 = true := by decide +kernel
theorem dc_Mo_init_155 : decode M_Mo_init.2.1 155 = .ok (.aload_n 0, 1) := by decide +kernel
theorem dc_Mo_init_156 : decode M_Mo_init.2.1 156 = .ok (.sipush 400, 3) := by decide +kernel
theorem dc_Mo_init_159 : decode M_Mo_init.2.1 159 = .ok (.newarray .boolean, 2) := by decide +kernel
theorem dc_Mo_init_161 : decode M_Mo_init.2.1 161 = .ok (.putfield 69, 3) := by decide +kernel
theorem kf_9_69 : rF 9 69 = some (9, 22) := by decide +kernel
theorem kp_Mo_init_9_22 : fpB M_Mo_init 9 22 = true := by decide +kernel
theorem dc_Mo_init_164 : decode M_Mo_init.2.1 164 = .ok (.aload_n 0, 1) := by decide +kernel
theorem dc_Mo_init_165 : decode M_Mo_init.2.1 165 = .ok (.sipush 24000, 3) := by decide +kernel
theorem k_sipush_24000 : (Int16.ofInt 24000).toInt32.toInt = 24000 := by decide
theorem dc_Mo_init_168 : decode M_Mo_init.2.1 168 = .ok (.newarray .int, 2) := by decide +kernel
theorem dc_Mo_init_170 : decode M_Mo_init.2.1 170 = .ok (.putfield 72, 3) := by decide +kernel
theorem kf_9_72 : rF 9 72 = some (9, 23) := by decide +kernel
theorem kp_Mo_init_9_23 : fpB M_Mo_init 9 23 = true := by decide +kernel
theorem dc_Mo_init_173 : decode M_Mo_init.2.1 173 = .ok (.aload_n 0, 1) := by decide +kernel
theorem dc_Mo_init_174 : decode M_Mo_init.2.1 174 = .ok (.sipush 24000, 3) := by decide +kernel
theorem dc_Mo_init_177 : decode M_Mo_init.2.1 177 = .ok (.newarray .int, 2) := by decide +kernel
theorem dc_Mo_init_179 : decode M_Mo_init.2.1 179 = .ok (.putfield 75, 3) := by decide +kernel
theorem kf_9_75 : rF 9 75 = some (9, 24) := by decide +kernel
theorem kp_Mo_init_9_24 : fpB M_Mo_init 9 24 = true := by decide +kernel
theorem dc_Mo_init_182 : decode M_Mo_init.2.1 182 = .ok (.aload_n 0, 1) := by decide +kernel
theorem dc_Mo_init_183 : decode M_Mo_init.2.1 183 = .ok (.sipush 4800, 3) := by decide +kernel
theorem k_sipush_4800 : (Int16.ofInt 4800).toInt32.toInt = 4800 := by decide
theorem dc_Mo_init_186 : decode M_Mo_init.2.1 186 = .ok (.newarray .int, 2) := by decide +kernel
theorem dc_Mo_init_188 : decode M_Mo_init.2.1 188 = .ok (.putfield 78, 3) := by decide +kernel
theorem kf_9_78 : rF 9 78 = some (9, 25) := by decide +kernel
theorem kp_Mo_init_9_25 : fpB M_Mo_init 9 25 = true := by decide +kernel
theorem dc_Mo_init_191 : decode M_Mo_init.2.1 191 = .ok (.aload_n 0, 1) := by decide +kernel
theorem dc_Mo_init_192 : decode M_Mo_init.2.1 192 = .ok (.sipush 4800, 3) := by decide +kernel
theorem dc_Mo_init_195 : decode M_Mo_init.2.1 195 = .ok (.newarray .boolean, 2) := by decide +kernel
theorem dc_Mo_init_197 : decode M_Mo_init.2.1 197 = .ok (.putfield 81, 3) := by decide +kernel
theorem kf_9_81 : rF 9 81 = some (9, 26) := by decide +kernel
theorem kp_Mo_init_9_26 : fpB M_Mo_init 9 26 = true := by decide +kernel
theorem dc_Mo_init_200 : decode M_Mo_init.2.1 200 = .ok (.aload_n 0, 1) := by decide +kernel
theorem dc_Mo_init_201 : decode M_Mo_init.2.1 201 = .ok (.ldc 84, 2) := by decide +kernel
theorem ki_9_84 : rI 9 84 = some 144000 := by decide +kernel
theorem dc_Mo_init_203 : decode M_Mo_init.2.1 203 = .ok (.newarray .int, 2) := by decide +kernel
theorem dc_Mo_init_205 : decode M_Mo_init.2.1 205 = .ok (.putfield 85, 3) := by decide +kernel
theorem kf_9_85 : rF 9 85 = some (9, 27) := by decide +kernel
theorem kp_Mo_init_9_27 : fpB M_Mo_init 9 27 = true := by decide +kernel
theorem dc_Mo_init_208 : decode M_Mo_init.2.1 208 = .ok (.aload_n 0, 1) := by decide +kernel
theorem dc_Mo_init_209 : decode M_Mo_init.2.1 209 = .ok (.sipush 4800, 3) := by decide +kernel
theorem dc_Mo_init_212 : decode M_Mo_init.2.1 212 = .ok (.newarray .int, 2) := by decide +kernel
theorem dc_Mo_init_214 : decode M_Mo_init.2.1 214 = .ok (.putfield 88, 3) := by decide +kernel
theorem kf_9_88 : rF 9 88 = some (9, 28) := by decide +kernel
theorem kp_Mo_init_9_28 : fpB M_Mo_init 9 28 = true := by decide +kernel
theorem dc_Mo_init_217 : decode M_Mo_init.2.1 217 = .ok (.aload_n 0, 1) := by decide +kernel
theorem dc_Mo_init_218 : decode M_Mo_init.2.1 218 = .ok (.ldc 91, 2) := by decide +kernel
theorem ki_9_91 : rI 9 91 = some 38400 := by decide +kernel
theorem dc_Mo_init_220 : decode M_Mo_init.2.1 220 = .ok (.newarray .int, 2) := by decide +kernel
theorem dc_Mo_init_222 : decode M_Mo_init.2.1 222 = .ok (.putfield 92, 3) := by decide +kernel
theorem kf_9_92 : rF 9 92 = some (9, 29) := by decide +kernel
theorem kp_Mo_init_9_29 : fpB M_Mo_init 9 29 = true := by decide +kernel
theorem dc_Mo_init_225 : decode M_Mo_init.2.1 225 = .ok (.aload_n 0, 1) := by decide +kernel
theorem dc_Mo_init_226 : decode M_Mo_init.2.1 226 = .ok (.bipush 30, 2) := by decide +kernel
theorem dc_Mo_init_228 : decode M_Mo_init.2.1 228 = .ok (.newarray .int, 2) := by decide +kernel
theorem dc_Mo_init_230 : decode M_Mo_init.2.1 230 = .ok (.putfield 95, 3) := by decide +kernel
theorem kf_9_95 : rF 9 95 = some (9, 31) := by decide +kernel
theorem kp_Mo_init_9_31 : fpB M_Mo_init 9 31 = true := by decide +kernel
theorem dc_Mo_init_233 : decode M_Mo_init.2.1 233 = .ok (.aload_n 0, 1) := by decide +kernel
theorem dc_Mo_init_234 : decode M_Mo_init.2.1 234 = .ok (.bipush 36, 2) := by decide +kernel
theorem dc_Mo_init_236 : decode M_Mo_init.2.1 236 = .ok (.newarray .int, 2) := by decide +kernel
theorem dc_Mo_init_238 : decode M_Mo_init.2.1 238 = .ok (.putfield 98, 3) := by decide +kernel
theorem kf_9_98 : rF 9 98 = some (9, 32) := by decide +kernel
theorem kp_Mo_init_9_32 : fpB M_Mo_init 9 32 = true := by decide +kernel
theorem dc_Mo_init_241 : decode M_Mo_init.2.1 241 = .ok (.aload_n 0, 1) := by decide +kernel
theorem dc_Mo_init_242 : decode M_Mo_init.2.1 242 = .ok (.bipush 60, 2) := by decide +kernel
theorem dc_Mo_init_244 : decode M_Mo_init.2.1 244 = .ok (.newarray .int, 2) := by decide +kernel
theorem dc_Mo_init_246 : decode M_Mo_init.2.1 246 = .ok (.putfield 101, 3) := by decide +kernel
theorem kf_9_101 : rF 9 101 = some (9, 33) := by decide +kernel
theorem kp_Mo_init_9_33 : fpB M_Mo_init 9 33 = true := by decide +kernel
theorem dc_Mo_init_249 : decode M_Mo_init.2.1 249 = .ok (.aload_n 0, 1) := by decide +kernel
theorem dc_Mo_init_250 : decode M_Mo_init.2.1 250 = .ok (.sipush 180, 3) := by decide +kernel
theorem k_sipush_180 : (Int16.ofInt 180).toInt32.toInt = 180 := by decide
theorem dc_Mo_init_253 : decode M_Mo_init.2.1 253 = .ok (.newarray .int, 2) := by decide +kernel
theorem dc_Mo_init_255 : decode M_Mo_init.2.1 255 = .ok (.putfield 104, 3) := by decide +kernel
theorem kf_9_104 : rF 9 104 = some (9, 34) := by decide +kernel
theorem kp_Mo_init_9_34 : fpB M_Mo_init 9 34 = true := by decide +kernel
theorem dc_Mo_init_258 : decode M_Mo_init.2.1 258 = .ok (.aload_n 0, 1) := by decide +kernel
theorem dc_Mo_init_259 : decode M_Mo_init.2.1 259 = .ok (.sipush 200, 3) := by decide +kernel
theorem dc_Mo_init_262 : decode M_Mo_init.2.1 262 = .ok (.newarray .int, 2) := by decide +kernel
theorem dc_Mo_init_264 : decode M_Mo_init.2.1 264 = .ok (.putfield 107, 3) := by decide +kernel
theorem kf_9_107 : rF 9 107 = some (9, 36) := by decide +kernel
theorem kp_Mo_init_9_36 : fpB M_Mo_init 9 36 = true := by decide +kernel
theorem dc_Mo_init_267 : decode M_Mo_init.2.1 267 = .ok (.aload_n 0, 1) := by decide +kernel
theorem dc_Mo_init_268 : decode M_Mo_init.2.1 268 = .ok (.sipush 200, 3) := by decide +kernel
theorem dc_Mo_init_271 : decode M_Mo_init.2.1 271 = .ok (.newarray .int, 2) := by decide +kernel
theorem dc_Mo_init_273 : decode M_Mo_init.2.1 273 = .ok (.putfield 110, 3) := by decide +kernel
theorem kf_9_110 : rF 9 110 = some (9, 37) := by decide +kernel
theorem kp_Mo_init_9_37 : fpB M_Mo_init 9 37 = true := by decide +kernel
theorem dc_Mo_init_276 : decode M_Mo_init.2.1 276 = .ok (.iconst 0, 1) := by decide +kernel
theorem dc_Mo_init_277 : decode M_Mo_init.2.1 277 = .ok (.istore_n 1, 1) := by decide +kernel
theorem kiR_9_37 {z : Option Nm} : fitB 9 37 (vR z) = true := fi_R (by decide +kernel)
theorem kiR_9_36 {z : Option Nm} : fitB 9 36 (vR z) = true := fi_R (by decide +kernel)
theorem kiR_9_34 {z : Option Nm} : fitB 9 34 (vR z) = true := fi_R (by decide +kernel)
theorem kiR_9_33 {z : Option Nm} : fitB 9 33 (vR z) = true := fi_R (by decide +kernel)
theorem kiR_9_32 {z : Option Nm} : fitB 9 32 (vR z) = true := fi_R (by decide +kernel)
theorem kiR_9_31 {z : Option Nm} : fitB 9 31 (vR z) = true := fi_R (by decide +kernel)
theorem kiR_9_29 {z : Option Nm} : fitB 9 29 (vR z) = true := fi_R (by decide +kernel)
theorem kiR_9_28 {z : Option Nm} : fitB 9 28 (vR z) = true := fi_R (by decide +kernel)
theorem kiR_9_27 {z : Option Nm} : fitB 9 27 (vR z) = true := fi_R (by decide +kernel)
theorem kiR_9_26 {z : Option Nm} : fitB 9 26 (vR z) = true := fi_R (by decide +kernel)
theorem kiR_9_25 {z : Option Nm} : fitB 9 25 (vR z) = true := fi_R (by decide +kernel)
theorem kiR_9_24 {z : Option Nm} : fitB 9 24 (vR z) = true := fi_R (by decide +kernel)
theorem kiR_9_23 {z : Option Nm} : fitB 9 23 (vR z) = true := fi_R (by decide +kernel)
theorem kiR_9_22 {z : Option Nm} : fitB 9 22 (vR z) = true := fi_R (by decide +kernel)
theorem kiR_9_21 {z : Option Nm} : fitB 9 21 (vR z) = true := fi_R (by decide +kernel)
theorem kiR_9_20 {z : Option Nm} : fitB 9 20 (vR z) = true := fi_R (by decide +kernel)
theorem kiR_9_19 {z : Option Nm} : fitB 9 19 (vR z) = true := fi_R (by decide +kernel)
theorem kiR_9_18 {z : Option Nm} : fitB 9 18 (vR z) = true := fi_R (by decide +kernel)
theorem kiR_9_17 {z : Option Nm} : fitB 9 17 (vR z) = true := fi_R (by decide +kernel)
theorem kiR_9_16 {z : Option Nm} : fitB 9 16 (vR z) = true := fi_R (by decide +kernel)
theorem kiR_9_15 {z : Option Nm} : fitB 9 15 (vR z) = true := fi_R (by decide +kernel)
theorem kiR_9_14 {z : Option Nm} : fitB 9 14 (vR z) = true := fi_R (by decide +kernel)
theorem kiR_9_13 {z : Option Nm} : fitB 9 13 (vR z) = true := fi_R (by decide +kernel)
theorem kiR_9_12 {z : Option Nm} : fitB 9 12 (vR z) = true := fi_R (by decide +kernel)
theorem kiR_9_11 {z : Option Nm} : fitB 9 11 (vR z) = true := fi_R (by decide +kernel)
theorem kiR_9_10 {z : Option Nm} : fitB 9 10 (vR z) = true := fi_R (by decide +kernel)
theorem kiR_9_9 {z : Option Nm} : fitB 9 9 (vR z) = true := fi_R (by decide +kernel)
theorem kiR_9_8 {z : Option Nm} : fitB 9 8 (vR z) = true := fi_R (by decide +kernel)
theorem kiR_9_7 {z : Option Nm} : fitB 9 7 (vR z) = true := fi_R (by decide +kernel)
theorem kiR_9_6 {z : Option Nm} : fitB 9 6 (vR z) = true := fi_R (by decide +kernel)
theorem kiR_9_5 {z : Option Nm} : fitB 9 5 (vR z) = true := fi_R (by decide +kernel)
theorem kiI_9_3 {z : Int} : fitB 9 3 (vI z) = true := fi_I (by decide +kernel)
theorem kiI_9_2 {z : Int} : fitB 9 2 (vI z) = true := fi_I (by decide +kernel)
theorem dc_Mo_init_278 : decode M_Mo_init.2.1 278 = .ok (.iload_n 1, 1) := by decide +kernel
theorem dc_Mo_init_279 : decode M_Mo_init.2.1 279 = .ok (.bipush 60, 2) := by decide +kernel
theorem dc_Mo_init_281 : decode M_Mo_init.2.1 281 = .ok (.if_icmp .ge 16, 3) := by decide +kernel
theorem dc_Mo_init_297 : decode M_Mo_init.2.1 297 = .ok (.iconst 0, 1) := by decide +kernel
theorem dc_Mo_init_298 : decode M_Mo_init.2.1 298 = .ok (.istore_n 1, 1) := by decide +kernel
theorem dc_Mo_init_284 : decode M_Mo_init.2.1 284 = .ok (.aload_n 0, 1) := by decide +kernel
theorem dc_Mo_init_285 : decode M_Mo_init.2.1 285 = .ok (.getfield 51, 3) := by decide +kernel
theorem dc_Mo_init_288 : decode M_Mo_init.2.1 288 = .ok (.iload_n 1, 1) := by decide +kernel
theorem dc_Mo_init_289 : decode M_Mo_init.2.1 289 = .ok (.iconst (-1), 1) := by decide +kernel
theorem dc_Mo_init_290 : decode M_Mo_init.2.1 290 = .ok (.iastore, 1) := by decide +kernel
theorem dc_Mo_init_291 : decode M_Mo_init.2.1 291 = .ok (.iinc 1 1, 3) := by decide +kernel
theorem dc_Mo_init_294 : decode M_Mo_init.2.1 294 = .ok (.goto (-16), 3) := by decide +kernel
theorem dc_Mo_init_299 : decode M_Mo_init.2.1 299 = .ok (.iload_n 1, 1) := by decide +kernel
theorem dc_Mo_init_300 : decode M_Mo_init.2.1 300 = .ok (.sipush 4800, 3) := by decide +kernel
theorem dc_Mo_init_303 : decode M_Mo_init.2.1 303 = .ok (.if_icmp .ge 16, 3) := by decide +kernel
theorem dc_Mo_init_319 : decode M_Mo_init.2.1 319 = .ok (.return_, 1) := by decide +kernel
theorem dc_Mo_init_306 : decode M_Mo_init.2.1 306 = .ok (.aload_n 0, 1) := by decide +kernel
theorem dc_Mo_init_307 : decode M_Mo_init.2.1 307 = .ok (.getfield 78, 3) := by decide +kernel
theorem dc_Mo_init_310 : decode M_Mo_init.2.1 310 = .ok (.iload_n 1, 1) := by decide +kernel
theorem dc_Mo_init_311 : decode M_Mo_init.2.1 311 = .ok (.iconst (-1), 1) := by decide +kernel
theorem dc_Mo_init_312 : decode M_Mo_init.2.1 312 = .ok (.iastore, 1) := by decide +kernel
theorem dc_Mo_init_313 : decode M_Mo_init.2.1 313 = .ok (.iinc 1 1, 3) := by decide +kernel
theorem dc_Mo_init_316 : decode M_Mo_init.2.1 316 = .ok (.goto (-17), 3) := by decide +kernel
theorem dc_Mo_thrown_0 : decode M_Mo_thrown.2.1 0 = .ok (.aload_n 0, 1) := by decide +kernel
theorem dc_Mo_thrown_1 : decode M_Mo_thrown.2.1 1 = .ok (.getfield 113, 3) := by decide +kernel
theorem kf_9_113 : rF 9 113 = some (9, 0) := by decide +kernel
theorem dc_Mo_thrown_4 : decode M_Mo_thrown.2.1 4 = .ok (.ireturn, 1) := by decide +kernel
theorem dc_Mo_code_0 : decode M_Mo_code.2.1 0 = .ok (.aload_n 0, 1) := by decide +kernel
theorem dc_Mo_code_1 : decode M_Mo_code.2.1 1 = .ok (.iload_n 1, 1) := by decide +kernel
theorem dc_Mo_code_2 : decode M_Mo_code.2.1 2 = .ok (.iconst 2, 1) := by decide +kernel
theorem dc_Mo_code_3 : decode M_Mo_code.2.1 3 = .ok (.bipush 6, 2) := by decide +kernel
theorem dc_Mo_code_5 : decode M_Mo_code.2.1 5 = .ok (.invokestatic 116, 3) := by decide +kernel
theorem km_9_116 : rM 9 116 = some (0, M_Mo_isIn) := rM_at (j := 132) (p := 1094) (by decide +kernel) rfl
theorem np_Mo_isIn : nP M_Mo_isIn = 3 := by decide +kernel
theorem dc_Mo_code_8 : decode M_Mo_code.2.1 8 = .ok (.ifCond .eq 13, 3) := by decide +kernel
theorem dc_Mo_code_11 : decode M_Mo_code.2.1 11 = .ok (.iload_n 2, 1) := by decide +kernel
theorem dc_Mo_code_12 : decode M_Mo_code.2.1 12 = .ok (.iload_n 1, 1) := by decide +kernel
theorem dc_Mo_code_13 : decode M_Mo_code.2.1 13 = .ok (.bipush 12, 2) := by decide +kernel
theorem dc_Mo_code_15 : decode M_Mo_code.2.1 15 = .ok (.invokestatic 116, 3) := by decide +kernel
theorem dc_Mo_code_18 : decode M_Mo_code.2.1 18 = .ok (.ifCond .ne 7, 3) := by decide +kernel
theorem dc_Mo_code_25 : decode M_Mo_code.2.1 25 = .ok (.aload_n 0, 1) := by decide +kernel
theorem dc_Mo_code_26 : decode M_Mo_code.2.1 26 = .ok (.getfield 128, 3) := by decide +kernel
theorem kf_9_128 : rF 9 128 = some (9, 4) := by decide +kernel
theorem dc_Mo_code_29 : decode M_Mo_code.2.1 29 = .ok (.ifCond .eq 7, 3) := by decide +kernel
theorem dc_Mo_code_36 : decode M_Mo_code.2.1 36 = .ok (.iconst 0, 1) := by decide +kernel
theorem dc_Mo_code_32 : decode M_Mo_code.2.1 32 = .ok (.iconst 2, 1) := by decide +kernel
theorem dc_Mo_code_33 : decode M_Mo_code.2.1 33 = .ok (.goto 4, 3) := by decide +kernel
theorem dc_Mo_code_21 : decode M_Mo_code.2.1 21 = .ok (.iconst 1, 1) := by decide +kernel
theorem dc_Mo_code_22 : decode M_Mo_code.2.1 22 = .ok (.goto 15, 3) := by decide +kernel
theorem dc_Mo_code_37 : decode M_Mo_code.2.1 37 = .ok (.invokevirtual 132, 3) := by decide +kernel
theorem km_9_132 : rM 9 132 = some (1, M_Mo_refused) := rM_at (j := 133) (p := 1097) (by decide +kernel) rfl
theorem np_Mo_refused : nP M_Mo_refused = 1 := by decide +kernel
theorem dc_Mo_code_40 : decode M_Mo_code.2.1 40 = .ok (.ifCond .ne 13, 3) := by decide +kernel
theorem dc_Mo_code_43 : decode M_Mo_code.2.1 43 = .ok (.aload_n 0, 1) := by decide +kernel
theorem dc_Mo_code_44 : decode M_Mo_code.2.1 44 = .ok (.iload_n 1, 1) := by decide +kernel
theorem dc_Mo_code_45 : decode M_Mo_code.2.1 45 = .ok (.putfield 7, 3) := by decide +kernel
theorem kp_Mo_code_9_2 : fpB M_Mo_code 9 2 = true := by decide +kernel
theorem dc_Mo_code_48 : decode M_Mo_code.2.1 48 = .ok (.aload_n 0, 1) := by decide +kernel
theorem dc_Mo_code_49 : decode M_Mo_code.2.1 49 = .ok (.iload_n 2, 1) := by decide +kernel
theorem dc_Mo_code_50 : decode M_Mo_code.2.1 50 = .ok (.putfield 13, 3) := by decide +kernel
theorem kp_Mo_code_9_3 : fpB M_Mo_code 9 3 = true := by decide +kernel
theorem dc_Mo_code_53 : decode M_Mo_code.2.1 53 = .ok (.return_, 1) := by decide +kernel
theorem dc_Mo_isIn_0 : decode M_Mo_isIn.2.1 0 = .ok (.iload_n 0, 1) := by decide +kernel
theorem dc_Mo_isIn_1 : decode M_Mo_isIn.2.1 1 = .ok (.iload_n 1, 1) := by decide +kernel
theorem dc_Mo_isIn_2 : decode M_Mo_isIn.2.1 2 = .ok (.if_icmp .lt 12, 3) := by decide +kernel
theorem dc_Mo_isIn_5 : decode M_Mo_isIn.2.1 5 = .ok (.iload_n 0, 1) := by decide +kernel
theorem dc_Mo_isIn_6 : decode M_Mo_isIn.2.1 6 = .ok (.iload_n 2, 1) := by decide +kernel
theorem dc_Mo_isIn_7 : decode M_Mo_isIn.2.1 7 = .ok (.if_icmp .gt 7, 3) := by decide +kernel
theorem dc_Mo_isIn_10 : decode M_Mo_isIn.2.1 10 = .ok (.iconst 1, 1) := by decide +kernel
theorem dc_Mo_isIn_11 : decode M_Mo_isIn.2.1 11 = .ok (.goto 4, 3) := by decide +kernel
theorem dc_Mo_isIn_14 : decode M_Mo_isIn.2.1 14 = .ok (.iconst 0, 1) := by decide +kernel
theorem dc_Mo_isIn_15 : decode M_Mo_isIn.2.1 15 = .ok (.ireturn, 1) := by decide +kernel
theorem dc_Mo_refused_0 : decode M_Mo_refused.2.1 0 = .ok (.aload_n 0, 1) := by decide +kernel
theorem dc_Mo_refused_1 : decode M_Mo_refused.2.1 1 = .ok (.iload_n 1, 1) := by decide +kernel
theorem dc_Mo_refused_2 : decode M_Mo_refused.2.1 2 = .ok (.putfield 113, 3) := by decide +kernel
theorem kp_Mo_refused_9_0 : fpB M_Mo_refused 9 0 = true := by decide +kernel
theorem dc_Mo_refused_5 : decode M_Mo_refused.2.1 5 = .ok (.iload_n 1, 1) := by decide +kernel
theorem dc_Mo_refused_6 : decode M_Mo_refused.2.1 6 = .ok (.ifCond .le 7, 3) := by decide +kernel
theorem dc_Mo_refused_13 : decode M_Mo_refused.2.1 13 = .ok (.iconst 0, 1) := by decide +kernel
theorem dc_Mo_refused_9 : decode M_Mo_refused.2.1 9 = .ok (.iconst 1, 1) := by decide +kernel
theorem dc_Mo_refused_10 : decode M_Mo_refused.2.1 10 = .ok (.goto 4, 3) := by decide +kernel
theorem kiI_9_0 {z : Int} : fitB 9 0 (vI z) = true := fi_I (by decide +kernel)
theorem dc_Mo_refused_14 : decode M_Mo_refused.2.1 14 = .ok (.ireturn, 1) := by decide +kernel
theorem dc_Mo_house_0 : decode M_Mo_house.2.1 0 = .ok (.aload_n 0, 1) := by decide +kernel
theorem dc_Mo_house_1 : decode M_Mo_house.2.1 1 = .ok (.iload_n 1, 1) := by decide +kernel
theorem dc_Mo_house_2 : decode M_Mo_house.2.1 2 = .ok (.iconst 0, 1) := by decide +kernel
theorem dc_Mo_house_3 : decode M_Mo_house.2.1 3 = .ok (.bipush 9, 2) := by decide +kernel
theorem dc_Mo_house_5 : decode M_Mo_house.2.1 5 = .ok (.invokestatic 116, 3) := by decide +kernel
theorem dc_Mo_house_8 : decode M_Mo_house.2.1 8 = .ok (.ifCond .eq 14, 3) := by decide +kernel
theorem dc_Mo_house_11 : decode M_Mo_house.2.1 11 = .ok (.iload_n 2, 1) := by decide +kernel
theorem dc_Mo_house_12 : decode M_Mo_house.2.1 12 = .ok (.iconst 1, 1) := by decide +kernel
theorem dc_Mo_house_13 : decode M_Mo_house.2.1 13 = .ok (.sipush 400, 3) := by decide +kernel
theorem dc_Mo_house_16 : decode M_Mo_house.2.1 16 = .ok (.invokestatic 116, 3) := by decide +kernel
theorem dc_Mo_house_19 : decode M_Mo_house.2.1 19 = .ok (.ifCond .ne 7, 3) := by decide +kernel
theorem dc_Mo_house_26 : decode M_Mo_house.2.1 26 = .ok (.aload_n 0, 1) := by decide +kernel
theorem dc_Mo_house_27 : decode M_Mo_house.2.1 27 = .ok (.getfield 16, 3) := by decide +kernel
theorem dc_Mo_house_30 : decode M_Mo_house.2.1 30 = .ok (.iload_n 1, 1) := by decide +kernel
theorem dc_Mo_house_31 : decode M_Mo_house.2.1 31 = .ok (.iaload, 1) := by decide +kernel
theorem dc_Mo_house_32 : decode M_Mo_house.2.1 32 = .ok (.ifCond .le 7, 3) := by decide +kernel
theorem dc_Mo_house_39 : decode M_Mo_house.2.1 39 = .ok (.iconst 0, 1) := by decide +kernel
theorem dc_Mo_house_35 : decode M_Mo_house.2.1 35 = .ok (.iconst 2, 1) := by decide +kernel
theorem dc_Mo_house_36 : decode M_Mo_house.2.1 36 = .ok (.goto 4, 3) := by decide +kernel
theorem dc_Mo_house_22 : decode M_Mo_house.2.1 22 = .ok (.iconst 1, 1) := by decide +kernel
theorem dc_Mo_house_23 : decode M_Mo_house.2.1 23 = .ok (.goto 17, 3) := by decide +kernel
theorem dc_Mo_house_40 : decode M_Mo_house.2.1 40 = .ok (.invokevirtual 132, 3) := by decide +kernel
theorem dc_Mo_house_43 : decode M_Mo_house.2.1 43 = .ok (.ifCond .ne 17, 3) := by decide +kernel
theorem dc_Mo_house_46 : decode M_Mo_house.2.1 46 = .ok (.aload_n 0, 1) := by decide +kernel
theorem dc_Mo_house_47 : decode M_Mo_house.2.1 47 = .ok (.getfield 16, 3) := by decide +kernel
theorem dc_Mo_house_50 : decode M_Mo_house.2.1 50 = .ok (.iload_n 1, 1) := by decide +kernel
theorem dc_Mo_house_51 : decode M_Mo_house.2.1 51 = .ok (.iload_n 2, 1) := by decide +kernel
theorem dc_Mo_house_52 : decode M_Mo_house.2.1 52 = .ok (.iastore, 1) := by decide +kernel
theorem dc_Mo_house_53 : decode M_Mo_house.2.1 53 = .ok (.aload_n 0, 1) := by decide +kernel
theorem dc_Mo_house_54 : decode M_Mo_house.2.1 54 = .ok (.getfield 20, 3) := by decide +kernel
theorem dc_Mo_house_57 : decode M_Mo_house.2.1 57 = .ok (.iload_n 1, 1) := by decide +kernel
theorem dc_Mo_house_58 : decode M_Mo_house.2.1 58 = .ok (.iconst 1, 1) := by decide +kernel
theorem dc_Mo_house_59 : decode M_Mo_house.2.1 59 = .ok (.bastore, 1) := by decide +kernel
theorem dc_Mo_house_60 : decode M_Mo_house.2.1 60 = .ok (.return_, 1) := by decide +kernel
theorem dc_Mo_contract_0 : decode M_Mo_contract.2.1 0 = .ok (.aload_n 0, 1) := by decide +kernel
theorem dc_Mo_contract_1 : decode M_Mo_contract.2.1 1 = .ok (.aload_n 0, 1) := by decide +kernel
theorem dc_Mo_contract_2 : decode M_Mo_contract.2.1 2 = .ok (.iload_n 1, 1) := by decide +kernel
theorem dc_Mo_contract_3 : decode M_Mo_contract.2.1 3 = .ok (.invokevirtual 120, 3) := by decide +kernel
theorem km_9_120 : rM 9 120 = some (1, M_Mo_isHouse) := rM_at (j := 136) (p := 1109) (by decide +kernel) rfl
theorem np_Mo_isHouse : nP M_Mo_isHouse = 1 := by decide +kernel
theorem dc_Mo_contract_6 : decode M_Mo_contract.2.1 6 = .ok (.ifCond .eq 26, 3) := by decide +kernel
theorem dc_Mo_contract_9 : decode M_Mo_contract.2.1 9 = .ok (.aload_n 0, 1) := by decide +kernel
theorem dc_Mo_contract_10 : decode M_Mo_contract.2.1 10 = .ok (.iload_n 2, 1) := by decide +kernel
theorem dc_Mo_contract_11 : decode M_Mo_contract.2.1 11 = .ok (.invokevirtual 120, 3) := by decide +kernel
theorem dc_Mo_contract_14 : decode M_Mo_contract.2.1 14 = .ok (.ifCond .eq 18, 3) := by decide +kernel
theorem dc_Mo_contract_17 : decode M_Mo_contract.2.1 17 = .ok (.iload_n 1, 1) := by decide +kernel
theorem dc_Mo_contract_18 : decode M_Mo_contract.2.1 18 = .ok (.iload_n 2, 1) := by decide +kernel
theorem dc_Mo_contract_19 : decode M_Mo_contract.2.1 19 = .ok (.if_icmp .eq 13, 3) := by decide +kernel
theorem dc_Mo_contract_22 : decode M_Mo_contract.2.1 22 = .ok (.iload_n 3, 1) := by decide +kernel
theorem dc_Mo_contract_23 : decode M_Mo_contract.2.1 23 = .ok (.iconst 0, 1) := by decide +kernel
theorem dc_Mo_contract_24 : decode M_Mo_contract.2.1 24 = .ok (.bipush 100, 2) := by decide +kernel
theorem dc_Mo_contract_26 : decode M_Mo_contract.2.1 26 = .ok (.invokestatic 116, 3) := by decide +kernel
theorem dc_Mo_contract_29 : decode M_Mo_contract.2.1 29 = .ok (.ifCond .ne 7, 3) := by decide +kernel
theorem dc_Mo_contract_36 : decode M_Mo_contract.2.1 36 = .ok (.iconst 0, 1) := by decide +kernel
theorem dc_Mo_contract_32 : decode M_Mo_contract.2.1 32 = .ok (.iconst 1, 1) := by decide +kernel
theorem dc_Mo_contract_33 : decode M_Mo_contract.2.1 33 = .ok (.goto 4, 3) := by decide +kernel
theorem dc_Mo_contract_37 : decode M_Mo_contract.2.1 37 = .ok (.invokevirtual 132, 3) := by decide +kernel
theorem dc_Mo_contract_40 : decode M_Mo_contract.2.1 40 = .ok (.ifCond .eq 5, 3) := by decide +kernel
theorem dc_Mo_contract_45 : decode M_Mo_contract.2.1 45 = .ok (.aload_n 0, 1) := by decide +kernel
theorem dc_Mo_contract_46 : decode M_Mo_contract.2.1 46 = .ok (.getfield 30, 3) := by decide +kernel
theorem dc_Mo_contract_49 : decode M_Mo_contract.2.1 49 = .ok (.bipush 10, 2) := by decide +kernel
theorem dc_Mo_contract_51 : decode M_Mo_contract.2.1 51 = .ok (.iload_n 1, 1) := by decide +kernel
theorem dc_Mo_contract_52 : decode M_Mo_contract.2.1 52 = .ok (.imul, 1) := by decide +kernel
theorem dc_Mo_contract_53 : decode M_Mo_contract.2.1 53 = .ok (.iload_n 2, 1) := by decide +kernel
theorem dc_Mo_contract_54 : decode M_Mo_contract.2.1 54 = .ok (.iadd, 1) := by decide +kernel
theorem dc_Mo_contract_55 : decode M_Mo_contract.2.1 55 = .ok (.iaload, 1) := by decide +kernel
theorem dc_Mo_contract_56 : decode M_Mo_contract.2.1 56 = .ok (.istore 4, 2) := by decide +kernel
theorem dc_Mo_contract_58 : decode M_Mo_contract.2.1 58 = .ok (.aload_n 0, 1) := by decide +kernel
theorem dc_Mo_contract_59 : decode M_Mo_contract.2.1 59 = .ok (.iload_n 1, 1) := by decide +kernel
theorem dc_Mo_contract_60 : decode M_Mo_contract.2.1 60 = .ok (.invokevirtual 135, 3) := by decide +kernel
theorem km_9_135 : rM 9 135 = some (1, M_Mo_limitsOf) := rM_at (j := 137) (p := 1113) (by decide +kernel) rfl
theorem np_Mo_limitsOf : nP M_Mo_limitsOf = 1 := by decide +kernel
theorem dc_Mo_contract_43 : decode M_Mo_contract.2.1 43 = .ok (.iconst 0, 1) := by decide +kernel
theorem dc_Mo_contract_44 : decode M_Mo_contract.2.1 44 = .ok (.ireturn, 1) := by decide +kernel
theorem dc_Mo_contract_63 : decode M_Mo_contract.2.1 63 = .ok (.iload 4, 2) := by decide +kernel
theorem dc_Mo_contract_65 : decode M_Mo_contract.2.1 65 = .ok (.isub, 1) := by decide +kernel
theorem dc_Mo_contract_66 : decode M_Mo_contract.2.1 66 = .ok (.iload_n 3, 1) := by decide +kernel
theorem dc_Mo_contract_67 : decode M_Mo_contract.2.1 67 = .ok (.iadd, 1) := by decide +kernel
theorem dc_Mo_contract_68 : decode M_Mo_contract.2.1 68 = .ok (.aload_n 0, 1) := by decide +kernel
theorem dc_Mo_contract_69 : decode M_Mo_contract.2.1 69 = .ok (.getfield 16, 3) := by decide +kernel
theorem dc_Mo_contract_72 : decode M_Mo_contract.2.1 72 = .ok (.iload_n 1, 1) := by decide +kernel
theorem dc_Mo_contract_73 : decode M_Mo_contract.2.1 73 = .ok (.iaload, 1) := by decide +kernel
theorem dc_Mo_contract_74 : decode M_Mo_contract.2.1 74 = .ok (.if_icmp .gt 26, 3) := by decide +kernel
theorem dc_Mo_contract_77 : decode M_Mo_contract.2.1 77 = .ok (.aload_n 0, 1) := by decide +kernel
theorem dc_Mo_contract_78 : decode M_Mo_contract.2.1 78 = .ok (.iload_n 2, 1) := by decide +kernel
theorem dc_Mo_contract_79 : decode M_Mo_contract.2.1 79 = .ok (.invokevirtual 135, 3) := by decide +kernel
theorem dc_Mo_contract_82 : decode M_Mo_contract.2.1 82 = .ok (.iload 4, 2) := by decide +kernel
theorem dc_Mo_contract_84 : decode M_Mo_contract.2.1 84 = .ok (.isub, 1) := by decide +kernel
theorem dc_Mo_contract_85 : decode M_Mo_contract.2.1 85 = .ok (.iload_n 3, 1) := by decide +kernel
theorem dc_Mo_contract_86 : decode M_Mo_contract.2.1 86 = .ok (.iadd, 1) := by decide +kernel
theorem dc_Mo_contract_87 : decode M_Mo_contract.2.1 87 = .ok (.aload_n 0, 1) := by decide +kernel
theorem dc_Mo_contract_88 : decode M_Mo_contract.2.1 88 = .ok (.getfield 16, 3) := by decide +kernel
theorem dc_Mo_contract_91 : decode M_Mo_contract.2.1 91 = .ok (.iload_n 2, 1) := by decide +kernel
theorem dc_Mo_contract_92 : decode M_Mo_contract.2.1 92 = .ok (.iaload, 1) := by decide +kernel
theorem dc_Mo_contract_93 : decode M_Mo_contract.2.1 93 = .ok (.if_icmp .gt 7, 3) := by decide +kernel
theorem dc_Mo_contract_96 : decode M_Mo_contract.2.1 96 = .ok (.iconst 1, 1) := by decide +kernel
theorem dc_Mo_contract_97 : decode M_Mo_contract.2.1 97 = .ok (.goto 4, 3) := by decide +kernel
theorem dc_Mo_contract_100 : decode M_Mo_contract.2.1 100 = .ok (.iconst 0, 1) := by decide +kernel
theorem dc_Mo_contract_101 : decode M_Mo_contract.2.1 101 = .ok (.istore 5, 2) := by decide +kernel
theorem dc_Mo_contract_103 : decode M_Mo_contract.2.1 103 = .ok (.iload 5, 2) := by decide +kernel
theorem dc_Mo_contract_105 : decode M_Mo_contract.2.1 105 = .ok (.ifCond .eq 37, 3) := by decide +kernel
theorem dc_Mo_contract_108 : decode M_Mo_contract.2.1 108 = .ok (.aload_n 0, 1) := by decide +kernel
theorem dc_Mo_contract_109 : decode M_Mo_contract.2.1 109 = .ok (.getfield 33, 3) := by decide +kernel
theorem dc_Mo_contract_112 : decode M_Mo_contract.2.1 112 = .ok (.bipush 10, 2) := by decide +kernel
theorem dc_Mo_contract_114 : decode M_Mo_contract.2.1 114 = .ok (.iload_n 1, 1) := by decide +kernel
theorem dc_Mo_contract_115 : decode M_Mo_contract.2.1 115 = .ok (.imul, 1) := by decide +kernel
theorem dc_Mo_contract_116 : decode M_Mo_contract.2.1 116 = .ok (.iload_n 2, 1) := by decide +kernel
theorem dc_Mo_contract_117 : decode M_Mo_contract.2.1 117 = .ok (.iadd, 1) := by decide +kernel
theorem dc_Mo_contract_118 : decode M_Mo_contract.2.1 118 = .ok (.iaload, 1) := by decide +kernel
theorem dc_Mo_contract_119 : decode M_Mo_contract.2.1 119 = .ok (.iload_n 3, 1) := by decide +kernel
theorem dc_Mo_contract_120 : decode M_Mo_contract.2.1 120 = .ok (.if_icmp .gt 22, 3) := by decide +kernel
theorem dc_Mo_contract_123 : decode M_Mo_contract.2.1 123 = .ok (.aload_n 0, 1) := by decide +kernel
theorem dc_Mo_contract_124 : decode M_Mo_contract.2.1 124 = .ok (.getfield 33, 3) := by decide +kernel
theorem dc_Mo_contract_127 : decode M_Mo_contract.2.1 127 = .ok (.bipush 10, 2) := by decide +kernel
theorem dc_Mo_contract_129 : decode M_Mo_contract.2.1 129 = .ok (.iload_n 2, 1) := by decide +kernel
theorem dc_Mo_contract_130 : decode M_Mo_contract.2.1 130 = .ok (.imul, 1) := by decide +kernel
theorem dc_Mo_contract_131 : decode M_Mo_contract.2.1 131 = .ok (.iload_n 1, 1) := by decide +kernel
theorem dc_Mo_contract_132 : decode M_Mo_contract.2.1 132 = .ok (.iadd, 1) := by decide +kernel
theorem dc_Mo_contract_133 : decode M_Mo_contract.2.1 133 = .ok (.iaload, 1) := by decide +kernel
theorem dc_Mo_contract_134 : decode M_Mo_contract.2.1 134 = .ok (.iload_n 3, 1) := by decide +kernel
theorem dc_Mo_contract_135 : decode M_Mo_contract.2.1 135 = .ok (.if_icmp .gt 7, 3) := by decide +kernel
theorem dc_Mo_contract_138 : decode M_Mo_contract.2.1 138 = .ok (.iconst 1, 1) := by decide +kernel
theorem dc_Mo_contract_139 : decode M_Mo_contract.2.1 139 = .ok (.goto 4, 3) := by decide +kernel
theorem dc_Mo_contract_142 : decode M_Mo_contract.2.1 142 = .ok (.iconst 0, 1) := by decide +kernel
theorem dc_Mo_contract_143 : decode M_Mo_contract.2.1 143 = .ok (.istore 6, 2) := by decide +kernel
theorem dc_Mo_contract_145 : decode M_Mo_contract.2.1 145 = .ok (.iload 6, 2) := by decide +kernel
theorem dc_Mo_contract_147 : decode M_Mo_contract.2.1 147 = .ok (.ifCond .eq 27, 3) := by decide +kernel
theorem dc_Mo_contract_150 : decode M_Mo_contract.2.1 150 = .ok (.aload_n 0, 1) := by decide +kernel
theorem dc_Mo_contract_151 : decode M_Mo_contract.2.1 151 = .ok (.getfield 30, 3) := by decide +kernel
theorem dc_Mo_contract_154 : decode M_Mo_contract.2.1 154 = .ok (.bipush 10, 2) := by decide +kernel
theorem dc_Mo_contract_156 : decode M_Mo_contract.2.1 156 = .ok (.iload_n 1, 1) := by decide +kernel
theorem dc_Mo_contract_157 : decode M_Mo_contract.2.1 157 = .ok (.imul, 1) := by decide +kernel
theorem dc_Mo_contract_158 : decode M_Mo_contract.2.1 158 = .ok (.iload_n 2, 1) := by decide +kernel
theorem dc_Mo_contract_159 : decode M_Mo_contract.2.1 159 = .ok (.iadd, 1) := by decide +kernel
theorem dc_Mo_contract_160 : decode M_Mo_contract.2.1 160 = .ok (.iload_n 3, 1) := by decide +kernel
theorem dc_Mo_contract_161 : decode M_Mo_contract.2.1 161 = .ok (.iastore, 1) := by decide +kernel
theorem dc_Mo_contract_162 : decode M_Mo_contract.2.1 162 = .ok (.aload_n 0, 1) := by decide +kernel
theorem dc_Mo_contract_163 : decode M_Mo_contract.2.1 163 = .ok (.getfield 30, 3) := by decide +kernel
theorem dc_Mo_contract_166 : decode M_Mo_contract.2.1 166 = .ok (.bipush 10, 2) := by decide +kernel
theorem dc_Mo_contract_168 : decode M_Mo_contract.2.1 168 = .ok (.iload_n 2, 1) := by decide +kernel
theorem dc_Mo_contract_169 : decode M_Mo_contract.2.1 169 = .ok (.imul, 1) := by decide +kernel
theorem dc_Mo_contract_170 : decode M_Mo_contract.2.1 170 = .ok (.iload_n 1, 1) := by decide +kernel
theorem dc_Mo_contract_171 : decode M_Mo_contract.2.1 171 = .ok (.iadd, 1) := by decide +kernel
theorem dc_Mo_contract_172 : decode M_Mo_contract.2.1 172 = .ok (.iload_n 3, 1) := by decide +kernel
theorem dc_Mo_contract_173 : decode M_Mo_contract.2.1 173 = .ok (.iastore, 1) := by decide +kernel
theorem dc_Mo_contract_174 : decode M_Mo_contract.2.1 174 = .ok (.iload 6, 2) := by decide +kernel
theorem dc_Mo_contract_176 : decode M_Mo_contract.2.1 176 = .ok (.ireturn, 1) := by decide +kernel
theorem dc_Mo_isHouse_0 : decode M_Mo_isHouse.2.1 0 = .ok (.iload_n 1, 1) := by decide +kernel
theorem dc_Mo_isHouse_1 : decode M_Mo_isHouse.2.1 1 = .ok (.iconst 0, 1) := by decide +kernel
theorem dc_Mo_isHouse_2 : decode M_Mo_isHouse.2.1 2 = .ok (.bipush 9, 2) := by decide +kernel
theorem dc_Mo_isHouse_4 : decode M_Mo_isHouse.2.1 4 = .ok (.invokestatic 116, 3) := by decide +kernel
theorem dc_Mo_isHouse_7 : decode M_Mo_isHouse.2.1 7 = .ok (.ifCond .eq 16, 3) := by decide +kernel
theorem dc_Mo_isHouse_10 : decode M_Mo_isHouse.2.1 10 = .ok (.aload_n 0, 1) := by decide +kernel
theorem dc_Mo_isHouse_11 : decode M_Mo_isHouse.2.1 11 = .ok (.getfield 16, 3) := by decide +kernel
theorem dc_Mo_isHouse_14 : decode M_Mo_isHouse.2.1 14 = .ok (.iload_n 1, 1) := by decide +kernel
theorem dc_Mo_isHouse_15 : decode M_Mo_isHouse.2.1 15 = .ok (.iaload, 1) := by decide +kernel
theorem dc_Mo_isHouse_16 : decode M_Mo_isHouse.2.1 16 = .ok (.ifCond .le 7, 3) := by decide +kernel
theorem dc_Mo_isHouse_19 : decode M_Mo_isHouse.2.1 19 = .ok (.iconst 1, 1) := by decide +kernel
theorem dc_Mo_isHouse_20 : decode M_Mo_isHouse.2.1 20 = .ok (.goto 4, 3) := by decide +kernel
theorem dc_Mo_isHouse_23 : decode M_Mo_isHouse.2.1 23 = .ok (.iconst 0, 1) := by decide +kernel
theorem dc_Mo_isHouse_24 : decode M_Mo_isHouse.2.1 24 = .ok (.ireturn, 1) := by decide +kernel
theorem dc_Mo_limitsOf_0 : decode M_Mo_limitsOf.2.1 0 = .ok (.iconst 0, 1) := by decide +kernel
theorem dc_Mo_limitsOf_1 : decode M_Mo_limitsOf.2.1 1 = .ok (.istore_n 2, 1) := by decide +kernel
theorem dc_Mo_limitsOf_2 : decode M_Mo_limitsOf.2.1 2 = .ok (.iconst 0, 1) := by decide +kernel
theorem dc_Mo_limitsOf_3 : decode M_Mo_limitsOf.2.1 3 = .ok (.istore_n 3, 1) := by decide +kernel
theorem dc_Mo_limitsOf_4 : decode M_Mo_limitsOf.2.1 4 = .ok (.iload_n 3, 1) := by decide +kernel
theorem dc_Mo_limitsOf_5 : decode M_Mo_limitsOf.2.1 5 = .ok (.bipush 10, 2) := by decide +kernel
theorem dc_Mo_limitsOf_7 : decode M_Mo_limitsOf.2.1 7 = .ok (.if_icmp .ge 23, 3) := by decide +kernel
theorem dc_Mo_limitsOf_30 : decode M_Mo_limitsOf.2.1 30 = .ok (.iload_n 2, 1) := by decide +kernel
theorem dc_Mo_limitsOf_31 : decode M_Mo_limitsOf.2.1 31 = .ok (.ireturn, 1) := by decide +kernel
theorem dc_Mo_limitsOf_10 : decode M_Mo_limitsOf.2.1 10 = .ok (.iload_n 2, 1) := by decide +kernel
theorem dc_Mo_limitsOf_11 : decode M_Mo_limitsOf.2.1 11 = .ok (.aload_n 0, 1) := by decide +kernel
theorem dc_Mo_limitsOf_12 : decode M_Mo_limitsOf.2.1 12 = .ok (.getfield 30, 3) := by decide +kernel
theorem dc_Mo_limitsOf_15 : decode M_Mo_limitsOf.2.1 15 = .ok (.bipush 10, 2) := by decide +kernel
theorem dc_Mo_limitsOf_17 : decode M_Mo_limitsOf.2.1 17 = .ok (.iload_n 1, 1) := by decide +kernel
theorem dc_Mo_limitsOf_18 : decode M_Mo_limitsOf.2.1 18 = .ok (.imul, 1) := by decide +kernel
theorem dc_Mo_limitsOf_19 : decode M_Mo_limitsOf.2.1 19 = .ok (.iload_n 3, 1) := by decide +kernel
theorem dc_Mo_limitsOf_20 : decode M_Mo_limitsOf.2.1 20 = .ok (.iadd, 1) := by decide +kernel
theorem dc_Mo_limitsOf_21 : decode M_Mo_limitsOf.2.1 21 = .ok (.iaload, 1) := by decide +kernel
theorem dc_Mo_limitsOf_22 : decode M_Mo_limitsOf.2.1 22 = .ok (.iadd, 1) := by decide +kernel
theorem dc_Mo_limitsOf_23 : decode M_Mo_limitsOf.2.1 23 = .ok (.istore_n 2, 1) := by decide +kernel
theorem dc_Mo_limitsOf_24 : decode M_Mo_limitsOf.2.1 24 = .ok (.iinc 3 1, 3) := by decide +kernel
theorem dc_Mo_limitsOf_27 : decode M_Mo_limitsOf.2.1 27 = .ok (.goto (-23), 3) := by decide +kernel
theorem dc_Mo_up_0 : decode M_Mo_up.2.1 0 = .ok (.aload_n 0, 1) := by decide +kernel
theorem dc_Mo_up_1 : decode M_Mo_up.2.1 1 = .ok (.aload_n 0, 1) := by decide +kernel
theorem dc_Mo_up_2 : decode M_Mo_up.2.1 2 = .ok (.iload_n 1, 1) := by decide +kernel
theorem dc_Mo_up_3 : decode M_Mo_up.2.1 3 = .ok (.invokevirtual 120, 3) := by decide +kernel
theorem dc_Mo_up_6 : decode M_Mo_up.2.1 6 = .ok (.ifCond .eq 7, 3) := by decide +kernel
theorem dc_Mo_up_13 : decode M_Mo_up.2.1 13 = .ok (.iconst 1, 1) := by decide +kernel
theorem dc_Mo_up_9 : decode M_Mo_up.2.1 9 = .ok (.iconst 0, 1) := by decide +kernel
theorem dc_Mo_up_10 : decode M_Mo_up.2.1 10 = .ok (.goto 4, 3) := by decide +kernel
theorem dc_Mo_up_14 : decode M_Mo_up.2.1 14 = .ok (.invokevirtual 132, 3) := by decide +kernel
theorem dc_Mo_up_17 : decode M_Mo_up.2.1 17 = .ok (.ifCond .eq 5, 3) := by decide +kernel
theorem dc_Mo_up_22 : decode M_Mo_up.2.1 22 = .ok (.aload_n 0, 1) := by decide +kernel
theorem dc_Mo_up_23 : decode M_Mo_up.2.1 23 = .ok (.getfield 20, 3) := by decide +kernel
theorem dc_Mo_up_26 : decode M_Mo_up.2.1 26 = .ok (.iload_n 1, 1) := by decide +kernel
theorem dc_Mo_up_27 : decode M_Mo_up.2.1 27 = .ok (.baload, 1) := by decide +kernel
theorem dc_Mo_up_28 : decode M_Mo_up.2.1 28 = .ok (.istore_n 3, 1) := by decide +kernel
theorem dc_Mo_up_29 : decode M_Mo_up.2.1 29 = .ok (.aload_n 0, 1) := by decide +kernel
theorem dc_Mo_up_30 : decode M_Mo_up.2.1 30 = .ok (.getfield 20, 3) := by decide +kernel
theorem dc_Mo_up_33 : decode M_Mo_up.2.1 33 = .ok (.iload_n 1, 1) := by decide +kernel
theorem dc_Mo_up_34 : decode M_Mo_up.2.1 34 = .ok (.iload_n 2, 1) := by decide +kernel
theorem dc_Mo_up_35 : decode M_Mo_up.2.1 35 = .ok (.bastore, 1) := by decide +kernel
theorem dc_Mo_up_36 : decode M_Mo_up.2.1 36 = .ok (.iload_n 3, 1) := by decide +kernel
theorem dc_Mo_up_37 : decode M_Mo_up.2.1 37 = .ok (.ireturn, 1) := by decide +kernel
theorem dc_Mo_up_20 : decode M_Mo_up.2.1 20 = .ok (.iconst 0, 1) := by decide +kernel
theorem dc_Mo_up_21 : decode M_Mo_up.2.1 21 = .ok (.ireturn, 1) := by decide +kernel
theorem dc_Mo_write_0 : decode M_Mo_write.2.1 0 = .ok (.aload_n 0, 1) := by decide +kernel
theorem dc_Mo_write_1 : decode M_Mo_write.2.1 1 = .ok (.iload_n 1, 1) := by decide +kernel
theorem dc_Mo_write_2 : decode M_Mo_write.2.1 2 = .ok (.invokevirtual 120, 3) := by decide +kernel
theorem dc_Mo_write_5 : decode M_Mo_write.2.1 5 = .ok (.ifCond .eq 28, 3) := by decide +kernel
theorem dc_Mo_write_8 : decode M_Mo_write.2.1 8 = .ok (.iload_n 2, 1) := by decide +kernel
theorem dc_Mo_write_9 : decode M_Mo_write.2.1 9 = .ok (.iconst 0, 1) := by decide +kernel
theorem dc_Mo_write_10 : decode M_Mo_write.2.1 10 = .ok (.bipush 9, 2) := by decide +kernel
theorem dc_Mo_write_12 : decode M_Mo_write.2.1 12 = .ok (.invokestatic 116, 3) := by decide +kernel
theorem dc_Mo_write_15 : decode M_Mo_write.2.1 15 = .ok (.ifCond .eq 18, 3) := by decide +kernel
theorem dc_Mo_write_18 : decode M_Mo_write.2.1 18 = .ok (.iload_n 3, 1) := by decide +kernel
theorem dc_Mo_write_19 : decode M_Mo_write.2.1 19 = .ok (.iconst 0, 1) := by decide +kernel
theorem dc_Mo_write_20 : decode M_Mo_write.2.1 20 = .ok (.sipush 255, 3) := by decide +kernel
theorem dc_Mo_write_23 : decode M_Mo_write.2.1 23 = .ok (.invokestatic 116, 3) := by decide +kernel
theorem dc_Mo_write_26 : decode M_Mo_write.2.1 26 = .ok (.ifCond .eq 7, 3) := by decide +kernel
theorem dc_Mo_write_29 : decode M_Mo_write.2.1 29 = .ok (.iconst 1, 1) := by decide +kernel
theorem dc_Mo_write_30 : decode M_Mo_write.2.1 30 = .ok (.goto 4, 3) := by decide +kernel
theorem dc_Mo_write_33 : decode M_Mo_write.2.1 33 = .ok (.iconst 0, 1) := by decide +kernel
theorem dc_Mo_write_34 : decode M_Mo_write.2.1 34 = .ok (.istore 4, 2) := by decide +kernel
theorem dc_Mo_write_36 : decode M_Mo_write.2.1 36 = .ok (.aload_n 0, 1) := by decide +kernel
theorem dc_Mo_write_37 : decode M_Mo_write.2.1 37 = .ok (.iload 4, 2) := by decide +kernel
theorem dc_Mo_write_39 : decode M_Mo_write.2.1 39 = .ok (.ifCond .ne 7, 3) := by decide +kernel
theorem dc_Mo_write_46 : decode M_Mo_write.2.1 46 = .ok (.aload_n 0, 1) := by decide +kernel
theorem dc_Mo_write_47 : decode M_Mo_write.2.1 47 = .ok (.getfield 24, 3) := by decide +kernel
theorem dc_Mo_write_50 : decode M_Mo_write.2.1 50 = .ok (.iload_n 1, 1) := by decide +kernel
theorem dc_Mo_write_51 : decode M_Mo_write.2.1 51 = .ok (.baload, 1) := by decide +kernel
theorem dc_Mo_write_52 : decode M_Mo_write.2.1 52 = .ok (.ifCond .ne 34, 3) := by decide +kernel
theorem dc_Mo_write_55 : decode M_Mo_write.2.1 55 = .ok (.aload_n 0, 1) := by decide +kernel
theorem dc_Mo_write_56 : decode M_Mo_write.2.1 56 = .ok (.getfield 39, 3) := by decide +kernel
theorem dc_Mo_write_59 : decode M_Mo_write.2.1 59 = .ok (.bipush 10, 2) := by decide +kernel
theorem dc_Mo_write_61 : decode M_Mo_write.2.1 61 = .ok (.iload_n 1, 1) := by decide +kernel
theorem dc_Mo_write_62 : decode M_Mo_write.2.1 62 = .ok (.imul, 1) := by decide +kernel
theorem dc_Mo_write_63 : decode M_Mo_write.2.1 63 = .ok (.iload_n 2, 1) := by decide +kernel
theorem dc_Mo_write_64 : decode M_Mo_write.2.1 64 = .ok (.iadd, 1) := by decide +kernel
theorem dc_Mo_write_65 : decode M_Mo_write.2.1 65 = .ok (.baload, 1) := by decide +kernel
theorem dc_Mo_write_66 : decode M_Mo_write.2.1 66 = .ok (.ifCond .eq 24, 3) := by decide +kernel
theorem dc_Mo_write_69 : decode M_Mo_write.2.1 69 = .ok (.aload_n 0, 1) := by decide +kernel
theorem dc_Mo_write_70 : decode M_Mo_write.2.1 70 = .ok (.getfield 42, 3) := by decide +kernel
theorem dc_Mo_write_73 : decode M_Mo_write.2.1 73 = .ok (.bipush 10, 2) := by decide +kernel
theorem dc_Mo_write_75 : decode M_Mo_write.2.1 75 = .ok (.iload_n 1, 1) := by decide +kernel
theorem dc_Mo_write_76 : decode M_Mo_write.2.1 76 = .ok (.imul, 1) := by decide +kernel
theorem dc_Mo_write_77 : decode M_Mo_write.2.1 77 = .ok (.iload_n 2, 1) := by decide +kernel
theorem dc_Mo_write_78 : decode M_Mo_write.2.1 78 = .ok (.iadd, 1) := by decide +kernel
theorem dc_Mo_write_79 : decode M_Mo_write.2.1 79 = .ok (.iaload, 1) := by decide +kernel
theorem dc_Mo_write_80 : decode M_Mo_write.2.1 80 = .ok (.sipush 200, 3) := by decide +kernel
theorem dc_Mo_write_83 : decode M_Mo_write.2.1 83 = .ok (.if_icmp .ne 7, 3) := by decide +kernel
theorem dc_Mo_write_42 : decode M_Mo_write.2.1 42 = .ok (.iconst 1, 1) := by decide +kernel
theorem dc_Mo_write_43 : decode M_Mo_write.2.1 43 = .ok (.goto 48, 3) := by decide +kernel
theorem dc_Mo_write_86 : decode M_Mo_write.2.1 86 = .ok (.iconst 2, 1) := by decide +kernel
theorem dc_Mo_write_87 : decode M_Mo_write.2.1 87 = .ok (.goto 4, 3) := by decide +kernel
theorem dc_Mo_write_90 : decode M_Mo_write.2.1 90 = .ok (.iconst 0, 1) := by decide +kernel
theorem dc_Mo_write_91 : decode M_Mo_write.2.1 91 = .ok (.invokevirtual 132, 3) := by decide +kernel
theorem dc_Mo_write_94 : decode M_Mo_write.2.1 94 = .ok (.ifCond .eq 5, 3) := by decide +kernel
theorem dc_Mo_write_99 : decode M_Mo_write.2.1 99 = .ok (.bipush 10, 2) := by decide +kernel
theorem dc_Mo_write_101 : decode M_Mo_write.2.1 101 = .ok (.iload_n 1, 1) := by decide +kernel
theorem dc_Mo_write_102 : decode M_Mo_write.2.1 102 = .ok (.imul, 1) := by decide +kernel
theorem dc_Mo_write_103 : decode M_Mo_write.2.1 103 = .ok (.iload_n 2, 1) := by decide +kernel
theorem dc_Mo_write_104 : decode M_Mo_write.2.1 104 = .ok (.iadd, 1) := by decide +kernel
theorem dc_Mo_write_105 : decode M_Mo_write.2.1 105 = .ok (.istore 5, 2) := by decide +kernel
theorem dc_Mo_write_107 : decode M_Mo_write.2.1 107 = .ok (.aload_n 0, 1) := by decide +kernel
theorem dc_Mo_write_108 : decode M_Mo_write.2.1 108 = .ok (.getfield 39, 3) := by decide +kernel
theorem dc_Mo_write_111 : decode M_Mo_write.2.1 111 = .ok (.iload 5, 2) := by decide +kernel
theorem dc_Mo_write_113 : decode M_Mo_write.2.1 113 = .ok (.baload, 1) := by decide +kernel
theorem dc_Mo_write_114 : decode M_Mo_write.2.1 114 = .ok (.ifCond .ne 19, 3) := by decide +kernel
theorem dc_Mo_write_117 : decode M_Mo_write.2.1 117 = .ok (.aload_n 0, 1) := by decide +kernel
theorem dc_Mo_write_118 : decode M_Mo_write.2.1 118 = .ok (.getfield 39, 3) := by decide +kernel
theorem dc_Mo_write_121 : decode M_Mo_write.2.1 121 = .ok (.iload 5, 2) := by decide +kernel
theorem dc_Mo_write_123 : decode M_Mo_write.2.1 123 = .ok (.iconst 1, 1) := by decide +kernel
theorem dc_Mo_write_124 : decode M_Mo_write.2.1 124 = .ok (.bastore, 1) := by decide +kernel
theorem dc_Mo_write_125 : decode M_Mo_write.2.1 125 = .ok (.aload_n 0, 1) := by decide +kernel
theorem dc_Mo_write_126 : decode M_Mo_write.2.1 126 = .ok (.getfield 42, 3) := by decide +kernel
theorem dc_Mo_write_129 : decode M_Mo_write.2.1 129 = .ok (.iload 5, 2) := by decide +kernel
theorem dc_Mo_write_131 : decode M_Mo_write.2.1 131 = .ok (.iconst 0, 1) := by decide +kernel
theorem dc_Mo_write_132 : decode M_Mo_write.2.1 132 = .ok (.iastore, 1) := by decide +kernel
theorem dc_Mo_write_97 : decode M_Mo_write.2.1 97 = .ok (.iconst 0, 1) := by decide +kernel
theorem dc_Mo_write_98 : decode M_Mo_write.2.1 98 = .ok (.ireturn, 1) := by decide +kernel
theorem dc_Mo_write_133 : decode M_Mo_write.2.1 133 = .ok (.aload_n 0, 1) := by decide +kernel
theorem dc_Mo_write_134 : decode M_Mo_write.2.1 134 = .ok (.getfield 45, 3) := by decide +kernel
theorem dc_Mo_write_137 : decode M_Mo_write.2.1 137 = .ok (.sipush 200, 3) := by decide +kernel
theorem dc_Mo_write_140 : decode M_Mo_write.2.1 140 = .ok (.iload 5, 2) := by decide +kernel
theorem dc_Mo_write_142 : decode M_Mo_write.2.1 142 = .ok (.imul, 1) := by decide +kernel
theorem dc_Mo_write_143 : decode M_Mo_write.2.1 143 = .ok (.aload_n 0, 1) := by decide +kernel
theorem dc_Mo_write_144 : decode M_Mo_write.2.1 144 = .ok (.getfield 42, 3) := by decide +kernel
theorem dc_Mo_write_147 : decode M_Mo_write.2.1 147 = .ok (.iload 5, 2) := by decide +kernel
theorem dc_Mo_write_149 : decode M_Mo_write.2.1 149 = .ok (.iaload, 1) := by decide +kernel
theorem dc_Mo_write_150 : decode M_Mo_write.2.1 150 = .ok (.iadd, 1) := by decide +kernel
theorem dc_Mo_write_151 : decode M_Mo_write.2.1 151 = .ok (.iload_n 3, 1) := by decide +kernel
theorem dc_Mo_write_152 : decode M_Mo_write.2.1 152 = .ok (.iastore, 1) := by decide +kernel
theorem dc_Mo_write_153 : decode M_Mo_write.2.1 153 = .ok (.aload_n 0, 1) := by decide +kernel
theorem dc_Mo_write_154 : decode M_Mo_write.2.1 154 = .ok (.getfield 42, 3) := by decide +kernel
theorem dc_Mo_write_157 : decode M_Mo_write.2.1 157 = .ok (.iload 5, 2) := by decide +kernel
theorem dc_Mo_write_159 : decode M_Mo_write.2.1 159 = .ok (.dup2, 1) := by decide +kernel
theorem dc_Mo_write_160 : decode M_Mo_write.2.1 160 = .ok (.iaload, 1) := by decide +kernel
theorem dc_Mo_write_161 : decode M_Mo_write.2.1 161 = .ok (.iconst 1, 1) := by decide +kernel
theorem dc_Mo_write_162 : decode M_Mo_write.2.1 162 = .ok (.iadd, 1) := by decide +kernel
theorem dc_Mo_write_163 : decode M_Mo_write.2.1 163 = .ok (.iastore, 1) := by decide +kernel
theorem dc_Mo_write_164 : decode M_Mo_write.2.1 164 = .ok (.aload_n 0, 1) := by decide +kernel
theorem dc_Mo_write_165 : decode M_Mo_write.2.1 165 = .ok (.getfield 42, 3) := by decide +kernel
theorem dc_Mo_write_168 : decode M_Mo_write.2.1 168 = .ok (.iload 5, 2) := by decide +kernel
theorem dc_Mo_write_170 : decode M_Mo_write.2.1 170 = .ok (.iaload, 1) := by decide +kernel
theorem dc_Mo_write_171 : decode M_Mo_write.2.1 171 = .ok (.ireturn, 1) := by decide +kernel
theorem dc_Mo_file_0 : decode M_Mo_file.2.1 0 = .ok (.aload_n 0, 1) := by decide +kernel
theorem dc_Mo_file_1 : decode M_Mo_file.2.1 1 = .ok (.aload_n 0, 1) := by decide +kernel
theorem dc_Mo_file_2 : decode M_Mo_file.2.1 2 = .ok (.iload_n 1, 1) := by decide +kernel
theorem dc_Mo_file_3 : decode M_Mo_file.2.1 3 = .ok (.invokevirtual 120, 3) := by decide +kernel
theorem dc_Mo_file_6 : decode M_Mo_file.2.1 6 = .ok (.ifCond .eq 13, 3) := by decide +kernel
theorem dc_Mo_file_9 : decode M_Mo_file.2.1 9 = .ok (.iload_n 2, 1) := by decide +kernel
theorem dc_Mo_file_10 : decode M_Mo_file.2.1 10 = .ok (.iconst 0, 1) := by decide +kernel
theorem dc_Mo_file_11 : decode M_Mo_file.2.1 11 = .ok (.bipush 9, 2) := by decide +kernel
theorem dc_Mo_file_13 : decode M_Mo_file.2.1 13 = .ok (.invokestatic 116, 3) := by decide +kernel
theorem dc_Mo_file_16 : decode M_Mo_file.2.1 16 = .ok (.ifCond .ne 7, 3) := by decide +kernel
theorem dc_Mo_file_23 : decode M_Mo_file.2.1 23 = .ok (.aload_n 0, 1) := by decide +kernel
theorem dc_Mo_file_24 : decode M_Mo_file.2.1 24 = .ok (.getfield 24, 3) := by decide +kernel
theorem dc_Mo_file_27 : decode M_Mo_file.2.1 27 = .ok (.iload_n 1, 1) := by decide +kernel
theorem dc_Mo_file_28 : decode M_Mo_file.2.1 28 = .ok (.baload, 1) := by decide +kernel
theorem dc_Mo_file_29 : decode M_Mo_file.2.1 29 = .ok (.ifCond .eq 7, 3) := by decide +kernel
theorem dc_Mo_file_36 : decode M_Mo_file.2.1 36 = .ok (.iconst 0, 1) := by decide +kernel
theorem dc_Mo_file_32 : decode M_Mo_file.2.1 32 = .ok (.iconst 2, 1) := by decide +kernel
theorem dc_Mo_file_33 : decode M_Mo_file.2.1 33 = .ok (.goto 4, 3) := by decide +kernel
theorem dc_Mo_file_19 : decode M_Mo_file.2.1 19 = .ok (.iconst 1, 1) := by decide +kernel
theorem dc_Mo_file_20 : decode M_Mo_file.2.1 20 = .ok (.goto 17, 3) := by decide +kernel
theorem dc_Mo_file_37 : decode M_Mo_file.2.1 37 = .ok (.invokevirtual 132, 3) := by decide +kernel
theorem dc_Mo_file_40 : decode M_Mo_file.2.1 40 = .ok (.ifCond .eq 5, 3) := by decide +kernel
theorem dc_Mo_file_45 : decode M_Mo_file.2.1 45 = .ok (.aload_n 0, 1) := by decide +kernel
theorem dc_Mo_file_46 : decode M_Mo_file.2.1 46 = .ok (.getfield 39, 3) := by decide +kernel
theorem dc_Mo_file_49 : decode M_Mo_file.2.1 49 = .ok (.bipush 10, 2) := by decide +kernel
theorem dc_Mo_file_51 : decode M_Mo_file.2.1 51 = .ok (.iload_n 1, 1) := by decide +kernel
theorem dc_Mo_file_52 : decode M_Mo_file.2.1 52 = .ok (.imul, 1) := by decide +kernel
theorem dc_Mo_file_53 : decode M_Mo_file.2.1 53 = .ok (.iload_n 2, 1) := by decide +kernel
theorem dc_Mo_file_54 : decode M_Mo_file.2.1 54 = .ok (.iadd, 1) := by decide +kernel
theorem dc_Mo_file_55 : decode M_Mo_file.2.1 55 = .ok (.baload, 1) := by decide +kernel
theorem dc_Mo_file_56 : decode M_Mo_file.2.1 56 = .ok (.istore 4, 2) := by decide +kernel
theorem dc_Mo_file_58 : decode M_Mo_file.2.1 58 = .ok (.aload_n 0, 1) := by decide +kernel
theorem dc_Mo_file_59 : decode M_Mo_file.2.1 59 = .ok (.getfield 39, 3) := by decide +kernel
theorem dc_Mo_file_62 : decode M_Mo_file.2.1 62 = .ok (.bipush 10, 2) := by decide +kernel
theorem dc_Mo_file_64 : decode M_Mo_file.2.1 64 = .ok (.iload_n 1, 1) := by decide +kernel
theorem dc_Mo_file_65 : decode M_Mo_file.2.1 65 = .ok (.imul, 1) := by decide +kernel
theorem dc_Mo_file_66 : decode M_Mo_file.2.1 66 = .ok (.iload_n 2, 1) := by decide +kernel
theorem dc_Mo_file_67 : decode M_Mo_file.2.1 67 = .ok (.iadd, 1) := by decide +kernel
theorem dc_Mo_file_68 : decode M_Mo_file.2.1 68 = .ok (.iload_n 3, 1) := by decide +kernel
theorem dc_Mo_file_69 : decode M_Mo_file.2.1 69 = .ok (.bastore, 1) := by decide +kernel
theorem dc_Mo_file_70 : decode M_Mo_file.2.1 70 = .ok (.aload_n 0, 1) := by decide +kernel
theorem dc_Mo_file_71 : decode M_Mo_file.2.1 71 = .ok (.getfield 42, 3) := by decide +kernel
theorem dc_Mo_file_74 : decode M_Mo_file.2.1 74 = .ok (.bipush 10, 2) := by decide +kernel
theorem dc_Mo_file_76 : decode M_Mo_file.2.1 76 = .ok (.iload_n 1, 1) := by decide +kernel
theorem dc_Mo_file_77 : decode M_Mo_file.2.1 77 = .ok (.imul, 1) := by decide +kernel
theorem dc_Mo_file_78 : decode M_Mo_file.2.1 78 = .ok (.iload_n 2, 1) := by decide +kernel
theorem dc_Mo_file_79 : decode M_Mo_file.2.1 79 = .ok (.iadd, 1) := by decide +kernel
theorem dc_Mo_file_80 : decode M_Mo_file.2.1 80 = .ok (.iconst 0, 1) := by decide +kernel
theorem dc_Mo_file_81 : decode M_Mo_file.2.1 81 = .ok (.iastore, 1) := by decide +kernel
theorem dc_Mo_file_82 : decode M_Mo_file.2.1 82 = .ok (.iload 4, 2) := by decide +kernel
theorem dc_Mo_file_84 : decode M_Mo_file.2.1 84 = .ok (.ireturn, 1) := by decide +kernel
theorem dc_Mo_file_43 : decode M_Mo_file.2.1 43 = .ok (.iconst 0, 1) := by decide +kernel
theorem dc_Mo_file_44 : decode M_Mo_file.2.1 44 = .ok (.ireturn, 1) := by decide +kernel
theorem dc_Mo_seal_0 : decode M_Mo_seal.2.1 0 = .ok (.aload_n 0, 1) := by decide +kernel
theorem dc_Mo_seal_1 : decode M_Mo_seal.2.1 1 = .ok (.aload_n 0, 1) := by decide +kernel
theorem dc_Mo_seal_2 : decode M_Mo_seal.2.1 2 = .ok (.iload_n 1, 1) := by decide +kernel
theorem dc_Mo_seal_3 : decode M_Mo_seal.2.1 3 = .ok (.invokevirtual 120, 3) := by decide +kernel
theorem dc_Mo_seal_6 : decode M_Mo_seal.2.1 6 = .ok (.ifCond .ne 7, 3) := by decide +kernel
theorem dc_Mo_seal_13 : decode M_Mo_seal.2.1 13 = .ok (.aload_n 0, 1) := by decide +kernel
theorem dc_Mo_seal_14 : decode M_Mo_seal.2.1 14 = .ok (.getfield 24, 3) := by decide +kernel
theorem dc_Mo_seal_17 : decode M_Mo_seal.2.1 17 = .ok (.iload_n 1, 1) := by decide +kernel
theorem dc_Mo_seal_18 : decode M_Mo_seal.2.1 18 = .ok (.baload, 1) := by decide +kernel
theorem dc_Mo_seal_19 : decode M_Mo_seal.2.1 19 = .ok (.ifCond .eq 7, 3) := by decide +kernel
theorem dc_Mo_seal_26 : decode M_Mo_seal.2.1 26 = .ok (.iconst 0, 1) := by decide +kernel
theorem dc_Mo_seal_22 : decode M_Mo_seal.2.1 22 = .ok (.iconst 2, 1) := by decide +kernel
theorem dc_Mo_seal_23 : decode M_Mo_seal.2.1 23 = .ok (.goto 4, 3) := by decide +kernel
theorem dc_Mo_seal_9 : decode M_Mo_seal.2.1 9 = .ok (.iconst 1, 1) := by decide +kernel
theorem dc_Mo_seal_10 : decode M_Mo_seal.2.1 10 = .ok (.goto 17, 3) := by decide +kernel
theorem dc_Mo_seal_27 : decode M_Mo_seal.2.1 27 = .ok (.invokevirtual 132, 3) := by decide +kernel
theorem dc_Mo_seal_30 : decode M_Mo_seal.2.1 30 = .ok (.ifCond .eq 5, 3) := by decide +kernel
theorem dc_Mo_seal_35 : decode M_Mo_seal.2.1 35 = .ok (.aload_n 0, 1) := by decide +kernel
theorem dc_Mo_seal_36 : decode M_Mo_seal.2.1 36 = .ok (.iload_n 1, 1) := by decide +kernel
theorem dc_Mo_seal_37 : decode M_Mo_seal.2.1 37 = .ok (.invokevirtual 143, 3) := by decide +kernel
theorem km_9_143 : rM 9 143 = some (1, M_Mo_freeSlot) := rM_at (j := 142) (p := 1133) (by decide +kernel) rfl
theorem np_Mo_freeSlot : nP M_Mo_freeSlot = 1 := by decide +kernel
theorem dc_Mo_seal_33 : decode M_Mo_seal.2.1 33 = .ok (.iconst 0, 1) := by decide +kernel
theorem dc_Mo_seal_34 : decode M_Mo_seal.2.1 34 = .ok (.ireturn, 1) := by decide +kernel
theorem dc_Mo_seal_40 : decode M_Mo_seal.2.1 40 = .ok (.istore_n 2, 1) := by decide +kernel
theorem dc_Mo_seal_41 : decode M_Mo_seal.2.1 41 = .ok (.iload_n 2, 1) := by decide +kernel
theorem dc_Mo_seal_42 : decode M_Mo_seal.2.1 42 = .ok (.ifCond .lt 14, 3) := by decide +kernel
theorem dc_Mo_seal_45 : decode M_Mo_seal.2.1 45 = .ok (.aload_n 0, 1) := by decide +kernel
theorem dc_Mo_seal_46 : decode M_Mo_seal.2.1 46 = .ok (.getfield 48, 3) := by decide +kernel
theorem dc_Mo_seal_49 : decode M_Mo_seal.2.1 49 = .ok (.iload_n 1, 1) := by decide +kernel
theorem dc_Mo_seal_50 : decode M_Mo_seal.2.1 50 = .ok (.iaload, 1) := by decide +kernel
theorem dc_Mo_seal_51 : decode M_Mo_seal.2.1 51 = .ok (.bipush 30, 2) := by decide +kernel
theorem dc_Mo_seal_53 : decode M_Mo_seal.2.1 53 = .ok (.if_icmp .ne 5, 3) := by decide +kernel
theorem dc_Mo_seal_58 : decode M_Mo_seal.2.1 58 = .ok (.aload_n 0, 1) := by decide +kernel
theorem dc_Mo_seal_59 : decode M_Mo_seal.2.1 59 = .ok (.getfield 63, 3) := by decide +kernel
theorem dc_Mo_seal_62 : decode M_Mo_seal.2.1 62 = .ok (.iload_n 1, 1) := by decide +kernel
theorem dc_Mo_seal_63 : decode M_Mo_seal.2.1 63 = .ok (.iaload, 1) := by decide +kernel
theorem dc_Mo_seal_64 : decode M_Mo_seal.2.1 64 = .ok (.istore_n 3, 1) := by decide +kernel
theorem dc_Mo_seal_65 : decode M_Mo_seal.2.1 65 = .ok (.aload_n 0, 1) := by decide +kernel
theorem dc_Mo_seal_66 : decode M_Mo_seal.2.1 66 = .ok (.bipush 60, 2) := by decide +kernel
theorem dc_Mo_seal_68 : decode M_Mo_seal.2.1 68 = .ok (.putfield 146, 3) := by decide +kernel
theorem kf_9_146 : rF 9 146 = some (9, 30) := by decide +kernel
theorem kp_Mo_seal_9_30 : fpB M_Mo_seal 9 30 = true := by decide +kernel
theorem dc_Mo_seal_71 : decode M_Mo_seal.2.1 71 = .ok (.iconst 0, 1) := by decide +kernel
theorem dc_Mo_seal_72 : decode M_Mo_seal.2.1 72 = .ok (.istore 4, 2) := by decide +kernel
theorem kiI_9_30 {z : Int} : fitB 9 30 (vI z) = true := fi_I (by decide +kernel)
theorem dc_Mo_seal_56 : decode M_Mo_seal.2.1 56 = .ok (.iconst (-1), 1) := by decide +kernel
theorem dc_Mo_seal_57 : decode M_Mo_seal.2.1 57 = .ok (.ireturn, 1) := by decide +kernel
theorem dc_Mo_seal_74 : decode M_Mo_seal.2.1 74 = .ok (.iload 4, 2) := by decide +kernel
theorem dc_Mo_seal_76 : decode M_Mo_seal.2.1 76 = .ok (.bipush 10, 2) := by decide +kernel
theorem dc_Mo_seal_78 : decode M_Mo_seal.2.1 78 = .ok (.if_icmp .ge 22, 3) := by decide +kernel
theorem dc_Mo_seal_100 : decode M_Mo_seal.2.1 100 = .ok (.sipush 500, 3) := by decide +kernel
theorem dc_Mo_seal_103 : decode M_Mo_seal.2.1 103 = .ok (.iload_n 2, 1) := by decide +kernel
theorem dc_Mo_seal_104 : decode M_Mo_seal.2.1 104 = .ok (.imul, 1) := by decide +kernel
theorem dc_Mo_seal_105 : decode M_Mo_seal.2.1 105 = .ok (.istore 4, 2) := by decide +kernel
theorem dc_Mo_seal_107 : decode M_Mo_seal.2.1 107 = .ok (.iconst 0, 1) := by decide +kernel
theorem dc_Mo_seal_108 : decode M_Mo_seal.2.1 108 = .ok (.istore 5, 2) := by decide +kernel
theorem dc_Mo_seal_81 : decode M_Mo_seal.2.1 81 = .ok (.aload_n 0, 1) := by decide +kernel
theorem dc_Mo_seal_82 : decode M_Mo_seal.2.1 82 = .ok (.getfield 54, 3) := by decide +kernel
theorem dc_Mo_seal_85 : decode M_Mo_seal.2.1 85 = .ok (.bipush 10, 2) := by decide +kernel
theorem dc_Mo_seal_87 : decode M_Mo_seal.2.1 87 = .ok (.iload_n 2, 1) := by decide +kernel
theorem dc_Mo_seal_88 : decode M_Mo_seal.2.1 88 = .ok (.imul, 1) := by decide +kernel
theorem dc_Mo_seal_89 : decode M_Mo_seal.2.1 89 = .ok (.iload 4, 2) := by decide +kernel
theorem dc_Mo_seal_91 : decode M_Mo_seal.2.1 91 = .ok (.iadd, 1) := by decide +kernel
theorem dc_Mo_seal_92 : decode M_Mo_seal.2.1 92 = .ok (.iconst (-1), 1) := by decide +kernel
theorem dc_Mo_seal_93 : decode M_Mo_seal.2.1 93 = .ok (.iastore, 1) := by decide +kernel
theorem dc_Mo_seal_94 : decode M_Mo_seal.2.1 94 = .ok (.iinc 4 1, 3) := by decide +kernel
theorem dc_Mo_seal_97 : decode M_Mo_seal.2.1 97 = .ok (.goto (-23), 3) := by decide +kernel
theorem dc_Mo_seal_110 : decode M_Mo_seal.2.1 110 = .ok (.iload 5, 2) := by decide +kernel
theorem dc_Mo_seal_112 : decode M_Mo_seal.2.1 112 = .ok (.bipush 10, 2) := by decide +kernel
theorem dc_Mo_seal_114 : decode M_Mo_seal.2.1 114 = .ok (.if_icmp .ge 165, 3) := by decide +kernel
theorem dc_Mo_seal_279 : decode M_Mo_seal.2.1 279 = .ok (.bipush 40, 2) := by decide +kernel
theorem dc_Mo_seal_281 : decode M_Mo_seal.2.1 281 = .ok (.iload_n 1, 1) := by decide +kernel
theorem dc_Mo_seal_282 : decode M_Mo_seal.2.1 282 = .ok (.imul, 1) := by decide +kernel
theorem dc_Mo_seal_283 : decode M_Mo_seal.2.1 283 = .ok (.iload_n 3, 1) := by decide +kernel
theorem dc_Mo_seal_284 : decode M_Mo_seal.2.1 284 = .ok (.iadd, 1) := by decide +kernel
theorem dc_Mo_seal_285 : decode M_Mo_seal.2.1 285 = .ok (.istore 5, 2) := by decide +kernel
theorem dc_Mo_seal_117 : decode M_Mo_seal.2.1 117 = .ok (.bipush 10, 2) := by decide +kernel
theorem dc_Mo_seal_119 : decode M_Mo_seal.2.1 119 = .ok (.iload_n 1, 1) := by decide +kernel
theorem dc_Mo_seal_120 : decode M_Mo_seal.2.1 120 = .ok (.imul, 1) := by decide +kernel
theorem dc_Mo_seal_121 : decode M_Mo_seal.2.1 121 = .ok (.iload 5, 2) := by decide +kernel
theorem dc_Mo_seal_123 : decode M_Mo_seal.2.1 123 = .ok (.iadd, 1) := by decide +kernel
theorem dc_Mo_seal_124 : decode M_Mo_seal.2.1 124 = .ok (.istore 6, 2) := by decide +kernel
theorem dc_Mo_seal_126 : decode M_Mo_seal.2.1 126 = .ok (.aload_n 0, 1) := by decide +kernel
theorem dc_Mo_seal_127 : decode M_Mo_seal.2.1 127 = .ok (.getfield 39, 3) := by decide +kernel
theorem dc_Mo_seal_130 : decode M_Mo_seal.2.1 130 = .ok (.iload 6, 2) := by decide +kernel
theorem dc_Mo_seal_132 : decode M_Mo_seal.2.1 132 = .ok (.baload, 1) := by decide +kernel
theorem dc_Mo_seal_133 : decode M_Mo_seal.2.1 133 = .ok (.ifCond .eq 140, 3) := by decide +kernel
theorem dc_Mo_seal_136 : decode M_Mo_seal.2.1 136 = .ok (.aload_n 0, 1) := by decide +kernel
theorem dc_Mo_seal_137 : decode M_Mo_seal.2.1 137 = .ok (.getfield 54, 3) := by decide +kernel
theorem dc_Mo_seal_140 : decode M_Mo_seal.2.1 140 = .ok (.bipush 10, 2) := by decide +kernel
theorem dc_Mo_seal_142 : decode M_Mo_seal.2.1 142 = .ok (.iload_n 2, 1) := by decide +kernel
theorem dc_Mo_seal_143 : decode M_Mo_seal.2.1 143 = .ok (.imul, 1) := by decide +kernel
theorem dc_Mo_seal_144 : decode M_Mo_seal.2.1 144 = .ok (.iload 5, 2) := by decide +kernel
theorem dc_Mo_seal_146 : decode M_Mo_seal.2.1 146 = .ok (.iadd, 1) := by decide +kernel
theorem dc_Mo_seal_147 : decode M_Mo_seal.2.1 147 = .ok (.iconst 0, 1) := by decide +kernel
theorem dc_Mo_seal_148 : decode M_Mo_seal.2.1 148 = .ok (.iastore, 1) := by decide +kernel
theorem dc_Mo_seal_149 : decode M_Mo_seal.2.1 149 = .ok (.iconst 0, 1) := by decide +kernel
theorem dc_Mo_seal_150 : decode M_Mo_seal.2.1 150 = .ok (.istore 7, 2) := by decide +kernel
theorem dc_Mo_seal_152 : decode M_Mo_seal.2.1 152 = .ok (.iload 7, 2) := by decide +kernel
theorem dc_Mo_seal_154 : decode M_Mo_seal.2.1 154 = .ok (.aload_n 0, 1) := by decide +kernel
theorem dc_Mo_seal_155 : decode M_Mo_seal.2.1 155 = .ok (.getfield 42, 3) := by decide +kernel
theorem dc_Mo_seal_158 : decode M_Mo_seal.2.1 158 = .ok (.iload 6, 2) := by decide +kernel
theorem dc_Mo_seal_160 : decode M_Mo_seal.2.1 160 = .ok (.iaload, 1) := by decide +kernel
theorem dc_Mo_seal_161 : decode M_Mo_seal.2.1 161 = .ok (.if_icmp .ge 112, 3) := by decide +kernel
theorem dc_Mo_seal_164 : decode M_Mo_seal.2.1 164 = .ok (.aload_n 0, 1) := by decide +kernel
theorem dc_Mo_seal_165 : decode M_Mo_seal.2.1 165 = .ok (.iload 6, 2) := by decide +kernel
theorem dc_Mo_seal_167 : decode M_Mo_seal.2.1 167 = .ok (.iload 7, 2) := by decide +kernel
theorem dc_Mo_seal_169 : decode M_Mo_seal.2.1 169 = .ok (.invokevirtual 149, 3) := by decide +kernel
theorem km_9_149 : rM 9 149 = some (1, M_Mo_chunkEnd) := rM_at (j := 143) (p := 1137) (by decide +kernel) rfl
theorem np_Mo_chunkEnd : nP M_Mo_chunkEnd = 2 := by decide +kernel
theorem dc_Mo_seal_172 : decode M_Mo_seal.2.1 172 = .ok (.istore 8, 2) := by decide +kernel
theorem dc_Mo_seal_174 : decode M_Mo_seal.2.1 174 = .ok (.aload_n 0, 1) := by decide +kernel
theorem dc_Mo_seal_175 : decode M_Mo_seal.2.1 175 = .ok (.iload_n 1, 1) := by decide +kernel
theorem dc_Mo_seal_176 : decode M_Mo_seal.2.1 176 = .ok (.iload_n 2, 1) := by decide +kernel
theorem dc_Mo_seal_177 : decode M_Mo_seal.2.1 177 = .ok (.iload 6, 2) := by decide +kernel
theorem dc_Mo_seal_179 : decode M_Mo_seal.2.1 179 = .ok (.iload 7, 2) := by decide +kernel
theorem dc_Mo_seal_181 : decode M_Mo_seal.2.1 181 = .ok (.iload 8, 2) := by decide +kernel
theorem dc_Mo_seal_183 : decode M_Mo_seal.2.1 183 = .ok (.iload 7, 2) := by decide +kernel
theorem dc_Mo_seal_185 : decode M_Mo_seal.2.1 185 = .ok (.isub, 1) := by decide +kernel
theorem dc_Mo_seal_186 : decode M_Mo_seal.2.1 186 = .ok (.invokevirtual 153, 3) := by decide +kernel
theorem km_9_153 : rM 9 153 = some (1, M_Mo_findChunk) := rM_at (j := 144) (p := 1141) (by decide +kernel) rfl
theorem np_Mo_findChunk : nP M_Mo_findChunk = 5 := by decide +kernel
theorem dc_Mo_seal_189 : decode M_Mo_seal.2.1 189 = .ok (.istore 9, 2) := by decide +kernel
theorem dc_Mo_seal_191 : decode M_Mo_seal.2.1 191 = .ok (.iload 9, 2) := by decide +kernel
theorem dc_Mo_seal_193 : decode M_Mo_seal.2.1 193 = .ok (.ifCond .ge 19, 3) := by decide +kernel
theorem dc_Mo_seal_196 : decode M_Mo_seal.2.1 196 = .ok (.aload_n 0, 1) := by decide +kernel
theorem dc_Mo_seal_197 : decode M_Mo_seal.2.1 197 = .ok (.iload_n 1, 1) := by decide +kernel
theorem dc_Mo_seal_198 : decode M_Mo_seal.2.1 198 = .ok (.iload 6, 2) := by decide +kernel
theorem dc_Mo_seal_200 : decode M_Mo_seal.2.1 200 = .ok (.iload 7, 2) := by decide +kernel
theorem dc_Mo_seal_202 : decode M_Mo_seal.2.1 202 = .ok (.iload 8, 2) := by decide +kernel
theorem dc_Mo_seal_204 : decode M_Mo_seal.2.1 204 = .ok (.iload 7, 2) := by decide +kernel
theorem dc_Mo_seal_206 : decode M_Mo_seal.2.1 206 = .ok (.isub, 1) := by decide +kernel
theorem dc_Mo_seal_207 : decode M_Mo_seal.2.1 207 = .ok (.invokevirtual 157, 3) := by decide +kernel
theorem km_9_157 : rM 9 157 = some (1, M_Mo_put) := rM_at (j := 146) (p := 1149) (by decide +kernel) rfl
theorem np_Mo_put : nP M_Mo_put = 4 := by decide +kernel
theorem dc_Mo_seal_210 : decode M_Mo_seal.2.1 210 = .ok (.istore 9, 2) := by decide +kernel
theorem dc_Mo_seal_212 : decode M_Mo_seal.2.1 212 = .ok (.iload 9, 2) := by decide +kernel
theorem dc_Mo_seal_214 : decode M_Mo_seal.2.1 214 = .ok (.ifCond .ge 12, 3) := by decide +kernel
theorem dc_Mo_seal_226 : decode M_Mo_seal.2.1 226 = .ok (.aload_n 0, 1) := by decide +kernel
theorem dc_Mo_seal_227 : decode M_Mo_seal.2.1 227 = .ok (.getfield 57, 3) := by decide +kernel
theorem dc_Mo_seal_230 : decode M_Mo_seal.2.1 230 = .ok (.iload 4, 2) := by decide +kernel
theorem dc_Mo_seal_232 : decode M_Mo_seal.2.1 232 = .ok (.iload 9, 2) := by decide +kernel
theorem dc_Mo_seal_234 : decode M_Mo_seal.2.1 234 = .ok (.iastore, 1) := by decide +kernel
theorem dc_Mo_seal_235 : decode M_Mo_seal.2.1 235 = .ok (.aload_n 0, 1) := by decide +kernel
theorem dc_Mo_seal_236 : decode M_Mo_seal.2.1 236 = .ok (.getfield 60, 3) := by decide +kernel
theorem dc_Mo_seal_239 : decode M_Mo_seal.2.1 239 = .ok (.iload 4, 2) := by decide +kernel
theorem dc_Mo_seal_241 : decode M_Mo_seal.2.1 241 = .ok (.iload 8, 2) := by decide +kernel
theorem dc_Mo_seal_243 : decode M_Mo_seal.2.1 243 = .ok (.iload 7, 2) := by decide +kernel
theorem dc_Mo_seal_245 : decode M_Mo_seal.2.1 245 = .ok (.isub, 1) := by decide +kernel
theorem dc_Mo_seal_246 : decode M_Mo_seal.2.1 246 = .ok (.iastore, 1) := by decide +kernel
theorem dc_Mo_seal_247 : decode M_Mo_seal.2.1 247 = .ok (.iinc 4 1, 3) := by decide +kernel
theorem dc_Mo_seal_250 : decode M_Mo_seal.2.1 250 = .ok (.aload_n 0, 1) := by decide +kernel
theorem dc_Mo_seal_251 : decode M_Mo_seal.2.1 251 = .ok (.getfield 54, 3) := by decide +kernel
theorem dc_Mo_seal_254 : decode M_Mo_seal.2.1 254 = .ok (.bipush 10, 2) := by decide +kernel
theorem dc_Mo_seal_256 : decode M_Mo_seal.2.1 256 = .ok (.iload_n 2, 1) := by decide +kernel
theorem dc_Mo_seal_257 : decode M_Mo_seal.2.1 257 = .ok (.imul, 1) := by decide +kernel
theorem dc_Mo_seal_258 : decode M_Mo_seal.2.1 258 = .ok (.iload 5, 2) := by decide +kernel
theorem dc_Mo_seal_260 : decode M_Mo_seal.2.1 260 = .ok (.iadd, 1) := by decide +kernel
theorem dc_Mo_seal_261 : decode M_Mo_seal.2.1 261 = .ok (.dup2, 1) := by decide +kernel
theorem dc_Mo_seal_262 : decode M_Mo_seal.2.1 262 = .ok (.iaload, 1) := by decide +kernel
theorem dc_Mo_seal_263 : decode M_Mo_seal.2.1 263 = .ok (.iconst 1, 1) := by decide +kernel
theorem dc_Mo_seal_264 : decode M_Mo_seal.2.1 264 = .ok (.iadd, 1) := by decide +kernel
theorem dc_Mo_seal_265 : decode M_Mo_seal.2.1 265 = .ok (.iastore, 1) := by decide +kernel
theorem dc_Mo_seal_266 : decode M_Mo_seal.2.1 266 = .ok (.iload 8, 2) := by decide +kernel
theorem dc_Mo_seal_268 : decode M_Mo_seal.2.1 268 = .ok (.istore 7, 2) := by decide +kernel
theorem dc_Mo_seal_270 : decode M_Mo_seal.2.1 270 = .ok (.goto (-118), 3) := by decide +kernel
theorem dc_Mo_seal_217 : decode M_Mo_seal.2.1 217 = .ok (.aload_n 0, 1) := by decide +kernel
theorem dc_Mo_seal_218 : decode M_Mo_seal.2.1 218 = .ok (.getfield 63, 3) := by decide +kernel
theorem dc_Mo_seal_221 : decode M_Mo_seal.2.1 221 = .ok (.iload_n 1, 1) := by decide +kernel
theorem dc_Mo_seal_222 : decode M_Mo_seal.2.1 222 = .ok (.iload_n 3, 1) := by decide +kernel
theorem dc_Mo_seal_223 : decode M_Mo_seal.2.1 223 = .ok (.iastore, 1) := by decide +kernel
theorem dc_Mo_seal_224 : decode M_Mo_seal.2.1 224 = .ok (.iconst (-1), 1) := by decide +kernel
theorem dc_Mo_seal_225 : decode M_Mo_seal.2.1 225 = .ok (.ireturn, 1) := by decide +kernel
theorem dc_Mo_seal_273 : decode M_Mo_seal.2.1 273 = .ok (.iinc 5 1, 3) := by decide +kernel
theorem dc_Mo_seal_276 : decode M_Mo_seal.2.1 276 = .ok (.goto (-166), 3) := by decide +kernel
theorem dc_Mo_seal_287 : decode M_Mo_seal.2.1 287 = .ok (.iload 5, 2) := by decide +kernel
theorem dc_Mo_seal_289 : decode M_Mo_seal.2.1 289 = .ok (.bipush 40, 2) := by decide +kernel
theorem dc_Mo_seal_291 : decode M_Mo_seal.2.1 291 = .ok (.iload_n 1, 1) := by decide +kernel
theorem dc_Mo_seal_292 : decode M_Mo_seal.2.1 292 = .ok (.imul, 1) := by decide +kernel
theorem dc_Mo_seal_293 : decode M_Mo_seal.2.1 293 = .ok (.aload_n 0, 1) := by decide +kernel
theorem dc_Mo_seal_294 : decode M_Mo_seal.2.1 294 = .ok (.getfield 63, 3) := by decide +kernel
theorem dc_Mo_seal_297 : decode M_Mo_seal.2.1 297 = .ok (.iload_n 1, 1) := by decide +kernel
theorem dc_Mo_seal_298 : decode M_Mo_seal.2.1 298 = .ok (.iaload, 1) := by decide +kernel
theorem dc_Mo_seal_299 : decode M_Mo_seal.2.1 299 = .ok (.iadd, 1) := by decide +kernel
theorem dc_Mo_seal_300 : decode M_Mo_seal.2.1 300 = .ok (.if_icmp .ge 59, 3) := by decide +kernel
theorem dc_Mo_seal_359 : decode M_Mo_seal.2.1 359 = .ok (.aload_n 0, 1) := by decide +kernel
theorem dc_Mo_seal_360 : decode M_Mo_seal.2.1 360 = .ok (.iconst 1, 1) := by decide +kernel
theorem dc_Mo_seal_361 : decode M_Mo_seal.2.1 361 = .ok (.putfield 128, 3) := by decide +kernel
theorem kp_Mo_seal_9_4 : fpB M_Mo_seal 9 4 = true := by decide +kernel
theorem dc_Mo_seal_364 : decode M_Mo_seal.2.1 364 = .ok (.aload_n 0, 1) := by decide +kernel
theorem dc_Mo_seal_365 : decode M_Mo_seal.2.1 365 = .ok (.getfield 51, 3) := by decide +kernel
theorem dc_Mo_seal_368 : decode M_Mo_seal.2.1 368 = .ok (.iload_n 2, 1) := by decide +kernel
theorem dc_Mo_seal_369 : decode M_Mo_seal.2.1 369 = .ok (.aload_n 0, 1) := by decide +kernel
theorem dc_Mo_seal_370 : decode M_Mo_seal.2.1 370 = .ok (.getfield 48, 3) := by decide +kernel
theorem dc_Mo_seal_373 : decode M_Mo_seal.2.1 373 = .ok (.iload_n 1, 1) := by decide +kernel
theorem dc_Mo_seal_374 : decode M_Mo_seal.2.1 374 = .ok (.iaload, 1) := by decide +kernel
theorem dc_Mo_seal_375 : decode M_Mo_seal.2.1 375 = .ok (.iastore, 1) := by decide +kernel
theorem dc_Mo_seal_376 : decode M_Mo_seal.2.1 376 = .ok (.aload_n 0, 1) := by decide +kernel
theorem dc_Mo_seal_377 : decode M_Mo_seal.2.1 377 = .ok (.getfield 48, 3) := by decide +kernel
theorem dc_Mo_seal_380 : decode M_Mo_seal.2.1 380 = .ok (.iload_n 1, 1) := by decide +kernel
theorem dc_Mo_seal_381 : decode M_Mo_seal.2.1 381 = .ok (.dup2, 1) := by decide +kernel
theorem dc_Mo_seal_382 : decode M_Mo_seal.2.1 382 = .ok (.iaload, 1) := by decide +kernel
theorem dc_Mo_seal_383 : decode M_Mo_seal.2.1 383 = .ok (.iconst 1, 1) := by decide +kernel
theorem dc_Mo_seal_384 : decode M_Mo_seal.2.1 384 = .ok (.iadd, 1) := by decide +kernel
theorem dc_Mo_seal_385 : decode M_Mo_seal.2.1 385 = .ok (.iastore, 1) := by decide +kernel
theorem dc_Mo_seal_386 : decode M_Mo_seal.2.1 386 = .ok (.aload_n 0, 1) := by decide +kernel
theorem dc_Mo_seal_387 : decode M_Mo_seal.2.1 387 = .ok (.getfield 51, 3) := by decide +kernel
theorem dc_Mo_seal_390 : decode M_Mo_seal.2.1 390 = .ok (.iload_n 2, 1) := by decide +kernel
theorem dc_Mo_seal_391 : decode M_Mo_seal.2.1 391 = .ok (.iaload, 1) := by decide +kernel
theorem dc_Mo_seal_392 : decode M_Mo_seal.2.1 392 = .ok (.ireturn, 1) := by decide +kernel
theorem kiZ_9_4 {z : Int} : fitB 9 4 (vI z) = true ↔ (z = 0 ∨ z = 1) := fi_Z (by decide +kernel)
theorem dc_Mo_seal_303 : decode M_Mo_seal.2.1 303 = .ok (.aload_n 0, 1) := by decide +kernel
theorem dc_Mo_seal_304 : decode M_Mo_seal.2.1 304 = .ok (.getfield 69, 3) := by decide +kernel
theorem dc_Mo_seal_307 : decode M_Mo_seal.2.1 307 = .ok (.iload 5, 2) := by decide +kernel
theorem dc_Mo_seal_309 : decode M_Mo_seal.2.1 309 = .ok (.iconst 1, 1) := by decide +kernel
theorem dc_Mo_seal_310 : decode M_Mo_seal.2.1 310 = .ok (.bastore, 1) := by decide +kernel
theorem dc_Mo_seal_311 : decode M_Mo_seal.2.1 311 = .ok (.iconst 0, 1) := by decide +kernel
theorem dc_Mo_seal_312 : decode M_Mo_seal.2.1 312 = .ok (.istore 6, 2) := by decide +kernel
theorem dc_Mo_seal_314 : decode M_Mo_seal.2.1 314 = .ok (.iload 6, 2) := by decide +kernel
theorem dc_Mo_seal_316 : decode M_Mo_seal.2.1 316 = .ok (.bipush 60, 2) := by decide +kernel
theorem dc_Mo_seal_318 : decode M_Mo_seal.2.1 318 = .ok (.if_icmp .ge 35, 3) := by decide +kernel
theorem dc_Mo_seal_353 : decode M_Mo_seal.2.1 353 = .ok (.iinc 5 1, 3) := by decide +kernel
theorem dc_Mo_seal_356 : decode M_Mo_seal.2.1 356 = .ok (.goto (-69), 3) := by decide +kernel
theorem dc_Mo_seal_321 : decode M_Mo_seal.2.1 321 = .ok (.aload_n 0, 1) := by decide +kernel
theorem dc_Mo_seal_322 : decode M_Mo_seal.2.1 322 = .ok (.getfield 75, 3) := by decide +kernel
theorem dc_Mo_seal_325 : decode M_Mo_seal.2.1 325 = .ok (.bipush 60, 2) := by decide +kernel
theorem dc_Mo_seal_327 : decode M_Mo_seal.2.1 327 = .ok (.iload 5, 2) := by decide +kernel
theorem dc_Mo_seal_329 : decode M_Mo_seal.2.1 329 = .ok (.imul, 1) := by decide +kernel
theorem dc_Mo_seal_330 : decode M_Mo_seal.2.1 330 = .ok (.iload 6, 2) := by decide +kernel
theorem dc_Mo_seal_332 : decode M_Mo_seal.2.1 332 = .ok (.iadd, 1) := by decide +kernel
theorem dc_Mo_seal_333 : decode M_Mo_seal.2.1 333 = .ok (.aload_n 0, 1) := by decide +kernel
theorem dc_Mo_seal_334 : decode M_Mo_seal.2.1 334 = .ok (.getfield 72, 3) := by decide +kernel
theorem dc_Mo_seal_337 : decode M_Mo_seal.2.1 337 = .ok (.bipush 60, 2) := by decide +kernel
theorem dc_Mo_seal_339 : decode M_Mo_seal.2.1 339 = .ok (.iload 5, 2) := by decide +kernel
theorem dc_Mo_seal_341 : decode M_Mo_seal.2.1 341 = .ok (.imul, 1) := by decide +kernel
theorem dc_Mo_seal_342 : decode M_Mo_seal.2.1 342 = .ok (.iload 6, 2) := by decide +kernel
theorem dc_Mo_seal_344 : decode M_Mo_seal.2.1 344 = .ok (.iadd, 1) := by decide +kernel
theorem dc_Mo_seal_345 : decode M_Mo_seal.2.1 345 = .ok (.iaload, 1) := by decide +kernel
theorem dc_Mo_seal_346 : decode M_Mo_seal.2.1 346 = .ok (.iastore, 1) := by decide +kernel
theorem dc_Mo_seal_347 : decode M_Mo_seal.2.1 347 = .ok (.iinc 6 1, 3) := by decide +kernel
theorem dc_Mo_seal_350 : decode M_Mo_seal.2.1 350 = .ok (.goto (-36), 3) := by decide +kernel
theorem dc_Mo_freeSlot_0 : decode M_Mo_freeSlot.2.1 0 = .ok (.iconst (-1), 1) := by decide +kernel
theorem dc_Mo_freeSlot_1 : decode M_Mo_freeSlot.2.1 1 = .ok (.istore_n 2, 1) := by decide +kernel
theorem dc_Mo_freeSlot_2 : decode M_Mo_freeSlot.2.1 2 = .ok (.bipush 6, 2) := by decide +kernel
theorem dc_Mo_freeSlot_4 : decode M_Mo_freeSlot.2.1 4 = .ok (.iload_n 1, 1) := by decide +kernel
theorem dc_Mo_freeSlot_5 : decode M_Mo_freeSlot.2.1 5 = .ok (.imul, 1) := by decide +kernel
theorem dc_Mo_freeSlot_6 : decode M_Mo_freeSlot.2.1 6 = .ok (.iconst 5, 1) := by decide +kernel
theorem dc_Mo_freeSlot_7 : decode M_Mo_freeSlot.2.1 7 = .ok (.iadd, 1) := by decide +kernel
theorem dc_Mo_freeSlot_8 : decode M_Mo_freeSlot.2.1 8 = .ok (.istore_n 3, 1) := by decide +kernel
theorem dc_Mo_freeSlot_9 : decode M_Mo_freeSlot.2.1 9 = .ok (.iload_n 3, 1) := by decide +kernel
theorem dc_Mo_freeSlot_10 : decode M_Mo_freeSlot.2.1 10 = .ok (.bipush 6, 2) := by decide +kernel
theorem dc_Mo_freeSlot_12 : decode M_Mo_freeSlot.2.1 12 = .ok (.iload_n 1, 1) := by decide +kernel
theorem dc_Mo_freeSlot_13 : decode M_Mo_freeSlot.2.1 13 = .ok (.imul, 1) := by decide +kernel
theorem dc_Mo_freeSlot_14 : decode M_Mo_freeSlot.2.1 14 = .ok (.if_icmp .lt 24, 3) := by decide +kernel
theorem dc_Mo_freeSlot_38 : decode M_Mo_freeSlot.2.1 38 = .ok (.iload_n 2, 1) := by decide +kernel
theorem dc_Mo_freeSlot_39 : decode M_Mo_freeSlot.2.1 39 = .ok (.ireturn, 1) := by decide +kernel
theorem dc_Mo_freeSlot_17 : decode M_Mo_freeSlot.2.1 17 = .ok (.aload_n 0, 1) := by decide +kernel
theorem dc_Mo_freeSlot_18 : decode M_Mo_freeSlot.2.1 18 = .ok (.getfield 51, 3) := by decide +kernel
theorem dc_Mo_freeSlot_21 : decode M_Mo_freeSlot.2.1 21 = .ok (.iload_n 3, 1) := by decide +kernel
theorem dc_Mo_freeSlot_22 : decode M_Mo_freeSlot.2.1 22 = .ok (.iaload, 1) := by decide +kernel
theorem dc_Mo_freeSlot_23 : decode M_Mo_freeSlot.2.1 23 = .ok (.ifCond .ge 7, 3) := by decide +kernel
theorem dc_Mo_freeSlot_30 : decode M_Mo_freeSlot.2.1 30 = .ok (.iload_n 2, 1) := by decide +kernel
theorem dc_Mo_freeSlot_26 : decode M_Mo_freeSlot.2.1 26 = .ok (.iload_n 3, 1) := by decide +kernel
theorem dc_Mo_freeSlot_27 : decode M_Mo_freeSlot.2.1 27 = .ok (.goto 4, 3) := by decide +kernel
theorem dc_Mo_freeSlot_31 : decode M_Mo_freeSlot.2.1 31 = .ok (.istore_n 2, 1) := by decide +kernel
theorem dc_Mo_freeSlot_32 : decode M_Mo_freeSlot.2.1 32 = .ok (.iinc 3 (-1), 3) := by decide +kernel
theorem dc_Mo_freeSlot_35 : decode M_Mo_freeSlot.2.1 35 = .ok (.goto (-26), 3) := by decide +kernel
theorem dc_Mo_chunkEnd_0 : decode M_Mo_chunkEnd.2.1 0 = .ok (.iload_n 2, 1) := by decide +kernel
theorem dc_Mo_chunkEnd_1 : decode M_Mo_chunkEnd.2.1 1 = .ok (.istore_n 3, 1) := by decide +kernel
theorem dc_Mo_chunkEnd_2 : decode M_Mo_chunkEnd.2.1 2 = .ok (.iload_n 3, 1) := by decide +kernel
theorem dc_Mo_chunkEnd_3 : decode M_Mo_chunkEnd.2.1 3 = .ok (.aload_n 0, 1) := by decide +kernel
theorem dc_Mo_chunkEnd_4 : decode M_Mo_chunkEnd.2.1 4 = .ok (.getfield 42, 3) := by decide +kernel
theorem dc_Mo_chunkEnd_7 : decode M_Mo_chunkEnd.2.1 7 = .ok (.iload_n 1, 1) := by decide +kernel
theorem dc_Mo_chunkEnd_8 : decode M_Mo_chunkEnd.2.1 8 = .ok (.iaload, 1) := by decide +kernel
theorem dc_Mo_chunkEnd_9 : decode M_Mo_chunkEnd.2.1 9 = .ok (.if_icmp .ge 89, 3) := by decide +kernel
theorem dc_Mo_chunkEnd_98 : decode M_Mo_chunkEnd.2.1 98 = .ok (.iload_n 3, 1) := by decide +kernel
theorem dc_Mo_chunkEnd_99 : decode M_Mo_chunkEnd.2.1 99 = .ok (.ireturn, 1) := by decide +kernel
theorem dc_Mo_chunkEnd_12 : decode M_Mo_chunkEnd.2.1 12 = .ok (.iinc 3 1, 3) := by decide +kernel
theorem dc_Mo_chunkEnd_15 : decode M_Mo_chunkEnd.2.1 15 = .ok (.sipush 200, 3) := by decide +kernel
theorem dc_Mo_chunkEnd_18 : decode M_Mo_chunkEnd.2.1 18 = .ok (.iload_n 1, 1) := by decide +kernel
theorem dc_Mo_chunkEnd_19 : decode M_Mo_chunkEnd.2.1 19 = .ok (.imul, 1) := by decide +kernel
theorem dc_Mo_chunkEnd_20 : decode M_Mo_chunkEnd.2.1 20 = .ok (.iload_n 3, 1) := by decide +kernel
theorem dc_Mo_chunkEnd_21 : decode M_Mo_chunkEnd.2.1 21 = .ok (.iadd, 1) := by decide +kernel
theorem dc_Mo_chunkEnd_22 : decode M_Mo_chunkEnd.2.1 22 = .ok (.iconst 1, 1) := by decide +kernel
theorem dc_Mo_chunkEnd_23 : decode M_Mo_chunkEnd.2.1 23 = .ok (.isub, 1) := by decide +kernel
theorem dc_Mo_chunkEnd_24 : decode M_Mo_chunkEnd.2.1 24 = .ok (.istore 4, 2) := by decide +kernel
theorem dc_Mo_chunkEnd_26 : decode M_Mo_chunkEnd.2.1 26 = .ok (.iload_n 3, 1) := by decide +kernel
theorem dc_Mo_chunkEnd_27 : decode M_Mo_chunkEnd.2.1 27 = .ok (.iload_n 2, 1) := by decide +kernel
theorem dc_Mo_chunkEnd_28 : decode M_Mo_chunkEnd.2.1 28 = .ok (.isub, 1) := by decide +kernel
theorem dc_Mo_chunkEnd_29 : decode M_Mo_chunkEnd.2.1 29 = .ok (.bipush 16, 2) := by decide +kernel
theorem dc_Mo_chunkEnd_31 : decode M_Mo_chunkEnd.2.1 31 = .ok (.if_icmp .ne 5, 3) := by decide +kernel
theorem dc_Mo_chunkEnd_36 : decode M_Mo_chunkEnd.2.1 36 = .ok (.iload_n 3, 1) := by decide +kernel
theorem dc_Mo_chunkEnd_37 : decode M_Mo_chunkEnd.2.1 37 = .ok (.iload_n 2, 1) := by decide +kernel
theorem dc_Mo_chunkEnd_38 : decode M_Mo_chunkEnd.2.1 38 = .ok (.isub, 1) := by decide +kernel
theorem dc_Mo_chunkEnd_39 : decode M_Mo_chunkEnd.2.1 39 = .ok (.iconst 4, 1) := by decide +kernel
theorem dc_Mo_chunkEnd_40 : decode M_Mo_chunkEnd.2.1 40 = .ok (.if_icmp .lt 55, 3) := by decide +kernel
theorem dc_Mo_chunkEnd_43 : decode M_Mo_chunkEnd.2.1 43 = .ok (.aload_n 0, 1) := by decide +kernel
theorem dc_Mo_chunkEnd_44 : decode M_Mo_chunkEnd.2.1 44 = .ok (.getfield 45, 3) := by decide +kernel
theorem dc_Mo_chunkEnd_47 : decode M_Mo_chunkEnd.2.1 47 = .ok (.iload 4, 2) := by decide +kernel
theorem dc_Mo_chunkEnd_49 : decode M_Mo_chunkEnd.2.1 49 = .ok (.iaload, 1) := by decide +kernel
theorem dc_Mo_chunkEnd_50 : decode M_Mo_chunkEnd.2.1 50 = .ok (.iconst 3, 1) := by decide +kernel
theorem dc_Mo_chunkEnd_51 : decode M_Mo_chunkEnd.2.1 51 = .ok (.aload_n 0, 1) := by decide +kernel
theorem dc_Mo_chunkEnd_52 : decode M_Mo_chunkEnd.2.1 52 = .ok (.getfield 45, 3) := by decide +kernel
theorem dc_Mo_chunkEnd_55 : decode M_Mo_chunkEnd.2.1 55 = .ok (.iload 4, 2) := by decide +kernel
theorem dc_Mo_chunkEnd_57 : decode M_Mo_chunkEnd.2.1 57 = .ok (.iconst 1, 1) := by decide +kernel
theorem dc_Mo_chunkEnd_58 : decode M_Mo_chunkEnd.2.1 58 = .ok (.isub, 1) := by decide +kernel
theorem dc_Mo_chunkEnd_59 : decode M_Mo_chunkEnd.2.1 59 = .ok (.iaload, 1) := by decide +kernel
theorem dc_Mo_chunkEnd_60 : decode M_Mo_chunkEnd.2.1 60 = .ok (.imul, 1) := by decide +kernel
theorem dc_Mo_chunkEnd_61 : decode M_Mo_chunkEnd.2.1 61 = .ok (.iadd, 1) := by decide +kernel
theorem dc_Mo_chunkEnd_62 : decode M_Mo_chunkEnd.2.1 62 = .ok (.iconst 5, 1) := by decide +kernel
theorem dc_Mo_chunkEnd_63 : decode M_Mo_chunkEnd.2.1 63 = .ok (.aload_n 0, 1) := by decide +kernel
theorem dc_Mo_chunkEnd_64 : decode M_Mo_chunkEnd.2.1 64 = .ok (.getfield 45, 3) := by decide +kernel
theorem dc_Mo_chunkEnd_67 : decode M_Mo_chunkEnd.2.1 67 = .ok (.iload 4, 2) := by decide +kernel
theorem dc_Mo_chunkEnd_69 : decode M_Mo_chunkEnd.2.1 69 = .ok (.iconst 2, 1) := by decide +kernel
theorem dc_Mo_chunkEnd_70 : decode M_Mo_chunkEnd.2.1 70 = .ok (.isub, 1) := by decide +kernel
theorem dc_Mo_chunkEnd_71 : decode M_Mo_chunkEnd.2.1 71 = .ok (.iaload, 1) := by decide +kernel
theorem dc_Mo_chunkEnd_72 : decode M_Mo_chunkEnd.2.1 72 = .ok (.imul, 1) := by decide +kernel
theorem dc_Mo_chunkEnd_73 : decode M_Mo_chunkEnd.2.1 73 = .ok (.iadd, 1) := by decide +kernel
theorem dc_Mo_chunkEnd_74 : decode M_Mo_chunkEnd.2.1 74 = .ok (.bipush 7, 2) := by decide +kernel
theorem dc_Mo_chunkEnd_76 : decode M_Mo_chunkEnd.2.1 76 = .ok (.aload_n 0, 1) := by decide +kernel
theorem dc_Mo_chunkEnd_77 : decode M_Mo_chunkEnd.2.1 77 = .ok (.getfield 45, 3) := by decide +kernel
theorem dc_Mo_chunkEnd_80 : decode M_Mo_chunkEnd.2.1 80 = .ok (.iload 4, 2) := by decide +kernel
theorem dc_Mo_chunkEnd_82 : decode M_Mo_chunkEnd.2.1 82 = .ok (.iconst 3, 1) := by decide +kernel
theorem dc_Mo_chunkEnd_83 : decode M_Mo_chunkEnd.2.1 83 = .ok (.isub, 1) := by decide +kernel
theorem dc_Mo_chunkEnd_84 : decode M_Mo_chunkEnd.2.1 84 = .ok (.iaload, 1) := by decide +kernel
theorem dc_Mo_chunkEnd_85 : decode M_Mo_chunkEnd.2.1 85 = .ok (.imul, 1) := by decide +kernel
theorem dc_Mo_chunkEnd_86 : decode M_Mo_chunkEnd.2.1 86 = .ok (.iadd, 1) := by decide +kernel
theorem dc_Mo_chunkEnd_87 : decode M_Mo_chunkEnd.2.1 87 = .ok (.bipush 11, 2) := by decide +kernel
theorem dc_Mo_chunkEnd_89 : decode M_Mo_chunkEnd.2.1 89 = .ok (.irem, 1) := by decide +kernel
theorem dc_Mo_chunkEnd_90 : decode M_Mo_chunkEnd.2.1 90 = .ok (.ifCond .ne 5, 3) := by decide +kernel
theorem dc_Mo_chunkEnd_93 : decode M_Mo_chunkEnd.2.1 93 = .ok (.iload_n 3, 1) := by decide +kernel
theorem dc_Mo_chunkEnd_94 : decode M_Mo_chunkEnd.2.1 94 = .ok (.ireturn, 1) := by decide +kernel
theorem dc_Mo_chunkEnd_34 : decode M_Mo_chunkEnd.2.1 34 = .ok (.iload_n 3, 1) := by decide +kernel
theorem dc_Mo_chunkEnd_35 : decode M_Mo_chunkEnd.2.1 35 = .ok (.ireturn, 1) := by decide +kernel
theorem dc_Mo_chunkEnd_95 : decode M_Mo_chunkEnd.2.1 95 = .ok (.goto (-93), 3) := by decide +kernel
theorem dc_Mo_findChunk_0 : decode M_Mo_findChunk.2.1 0 = .ok (.iconst (-1), 1) := by decide +kernel
theorem dc_Mo_findChunk_1 : decode M_Mo_findChunk.2.1 1 = .ok (.istore 6, 2) := by decide +kernel
theorem dc_Mo_findChunk_3 : decode M_Mo_findChunk.2.1 3 = .ok (.bipush 6, 2) := by decide +kernel
theorem dc_Mo_findChunk_5 : decode M_Mo_findChunk.2.1 5 = .ok (.iload_n 1, 1) := by decide +kernel
theorem dc_Mo_findChunk_6 : decode M_Mo_findChunk.2.1 6 = .ok (.imul, 1) := by decide +kernel
theorem dc_Mo_findChunk_7 : decode M_Mo_findChunk.2.1 7 = .ok (.istore 7, 2) := by decide +kernel
theorem dc_Mo_findChunk_9 : decode M_Mo_findChunk.2.1 9 = .ok (.iload 7, 2) := by decide +kernel
theorem dc_Mo_findChunk_11 : decode M_Mo_findChunk.2.1 11 = .ok (.bipush 6, 2) := by decide +kernel
theorem dc_Mo_findChunk_13 : decode M_Mo_findChunk.2.1 13 = .ok (.iload_n 1, 1) := by decide +kernel
theorem dc_Mo_findChunk_14 : decode M_Mo_findChunk.2.1 14 = .ok (.imul, 1) := by decide +kernel
theorem dc_Mo_findChunk_15 : decode M_Mo_findChunk.2.1 15 = .ok (.bipush 6, 2) := by decide +kernel
theorem dc_Mo_findChunk_17 : decode M_Mo_findChunk.2.1 17 = .ok (.iadd, 1) := by decide +kernel
theorem dc_Mo_findChunk_18 : decode M_Mo_findChunk.2.1 18 = .ok (.if_icmp .ge 47, 3) := by decide +kernel
theorem dc_Mo_findChunk_21 : decode M_Mo_findChunk.2.1 21 = .ok (.iload 6, 2) := by decide +kernel
theorem dc_Mo_findChunk_23 : decode M_Mo_findChunk.2.1 23 = .ok (.ifCond .ge 42, 3) := by decide +kernel
theorem dc_Mo_findChunk_26 : decode M_Mo_findChunk.2.1 26 = .ok (.aload_n 0, 1) := by decide +kernel
theorem dc_Mo_findChunk_27 : decode M_Mo_findChunk.2.1 27 = .ok (.getfield 51, 3) := by decide +kernel
theorem dc_Mo_findChunk_30 : decode M_Mo_findChunk.2.1 30 = .ok (.iload 7, 2) := by decide +kernel
theorem dc_Mo_findChunk_32 : decode M_Mo_findChunk.2.1 32 = .ok (.iaload, 1) := by decide +kernel
theorem dc_Mo_findChunk_33 : decode M_Mo_findChunk.2.1 33 = .ok (.ifCond .ge 9, 3) := by decide +kernel
theorem dc_Mo_findChunk_36 : decode M_Mo_findChunk.2.1 36 = .ok (.iload 7, 2) := by decide +kernel
theorem dc_Mo_findChunk_38 : decode M_Mo_findChunk.2.1 38 = .ok (.iload_n 2, 1) := by decide +kernel
theorem dc_Mo_findChunk_39 : decode M_Mo_findChunk.2.1 39 = .ok (.if_icmp .ne 17, 3) := by decide +kernel
theorem dc_Mo_findChunk_56 : decode M_Mo_findChunk.2.1 56 = .ok (.iconst (-1), 1) := by decide +kernel
theorem dc_Mo_findChunk_42 : decode M_Mo_findChunk.2.1 42 = .ok (.aload_n 0, 1) := by decide +kernel
theorem dc_Mo_findChunk_43 : decode M_Mo_findChunk.2.1 43 = .ok (.iload 7, 2) := by decide +kernel
theorem dc_Mo_findChunk_45 : decode M_Mo_findChunk.2.1 45 = .ok (.iload_n 3, 1) := by decide +kernel
theorem dc_Mo_findChunk_46 : decode M_Mo_findChunk.2.1 46 = .ok (.iload 4, 2) := by decide +kernel
theorem dc_Mo_findChunk_48 : decode M_Mo_findChunk.2.1 48 = .ok (.iload 5, 2) := by decide +kernel
theorem dc_Mo_findChunk_50 : decode M_Mo_findChunk.2.1 50 = .ok (.invokevirtual 139, 3) := by decide +kernel
theorem km_9_139 : rM 9 139 = some (1, M_Mo_findIn) := rM_at (j := 145) (p := 1145) (by decide +kernel) rfl
theorem np_Mo_findIn : nP M_Mo_findIn = 4 := by decide +kernel
theorem dc_Mo_findChunk_53 : decode M_Mo_findChunk.2.1 53 = .ok (.goto 4, 3) := by decide +kernel
theorem dc_Mo_findChunk_57 : decode M_Mo_findChunk.2.1 57 = .ok (.istore 6, 2) := by decide +kernel
theorem dc_Mo_findChunk_59 : decode M_Mo_findChunk.2.1 59 = .ok (.iinc 7 1, 3) := by decide +kernel
theorem dc_Mo_findChunk_62 : decode M_Mo_findChunk.2.1 62 = .ok (.goto (-53), 3) := by decide +kernel
theorem dc_Mo_findChunk_65 : decode M_Mo_findChunk.2.1 65 = .ok (.iload 6, 2) := by decide +kernel
theorem dc_Mo_findChunk_67 : decode M_Mo_findChunk.2.1 67 = .ok (.ireturn, 1) := by decide +kernel
theorem dc_Mo_findIn_0 : decode M_Mo_findIn.2.1 0 = .ok (.iconst 0, 1) := by decide +kernel
theorem dc_Mo_findIn_1 : decode M_Mo_findIn.2.1 1 = .ok (.istore 5, 2) := by decide +kernel
theorem dc_Mo_findIn_3 : decode M_Mo_findIn.2.1 3 = .ok (.iconst 0, 1) := by decide +kernel
theorem dc_Mo_findIn_4 : decode M_Mo_findIn.2.1 4 = .ok (.istore 6, 2) := by decide +kernel
theorem dc_Mo_findIn_6 : decode M_Mo_findIn.2.1 6 = .ok (.iload 6, 2) := by decide +kernel
theorem dc_Mo_findIn_8 : decode M_Mo_findIn.2.1 8 = .ok (.bipush 10, 2) := by decide +kernel
theorem dc_Mo_findIn_10 : decode M_Mo_findIn.2.1 10 = .ok (.if_icmp .ge 45, 3) := by decide +kernel
theorem dc_Mo_findIn_55 : decode M_Mo_findIn.2.1 55 = .ok (.sipush 500, 3) := by decide +kernel
theorem dc_Mo_findIn_58 : decode M_Mo_findIn.2.1 58 = .ok (.iload_n 1, 1) := by decide +kernel
theorem dc_Mo_findIn_59 : decode M_Mo_findIn.2.1 59 = .ok (.imul, 1) := by decide +kernel
theorem dc_Mo_findIn_60 : decode M_Mo_findIn.2.1 60 = .ok (.istore 6, 2) := by decide +kernel
theorem dc_Mo_findIn_13 : decode M_Mo_findIn.2.1 13 = .ok (.iload 5, 2) := by decide +kernel
theorem dc_Mo_findIn_15 : decode M_Mo_findIn.2.1 15 = .ok (.aload_n 0, 1) := by decide +kernel
theorem dc_Mo_findIn_16 : decode M_Mo_findIn.2.1 16 = .ok (.getfield 54, 3) := by decide +kernel
theorem dc_Mo_findIn_19 : decode M_Mo_findIn.2.1 19 = .ok (.bipush 10, 2) := by decide +kernel
theorem dc_Mo_findIn_21 : decode M_Mo_findIn.2.1 21 = .ok (.iload_n 1, 1) := by decide +kernel
theorem dc_Mo_findIn_22 : decode M_Mo_findIn.2.1 22 = .ok (.imul, 1) := by decide +kernel
theorem dc_Mo_findIn_23 : decode M_Mo_findIn.2.1 23 = .ok (.iload 6, 2) := by decide +kernel
theorem dc_Mo_findIn_25 : decode M_Mo_findIn.2.1 25 = .ok (.iadd, 1) := by decide +kernel
theorem dc_Mo_findIn_26 : decode M_Mo_findIn.2.1 26 = .ok (.iaload, 1) := by decide +kernel
theorem dc_Mo_findIn_27 : decode M_Mo_findIn.2.1 27 = .ok (.ifCond .le 18, 3) := by decide +kernel
theorem dc_Mo_findIn_45 : decode M_Mo_findIn.2.1 45 = .ok (.iconst 0, 1) := by decide +kernel
theorem dc_Mo_findIn_30 : decode M_Mo_findIn.2.1 30 = .ok (.aload_n 0, 1) := by decide +kernel
theorem dc_Mo_findIn_31 : decode M_Mo_findIn.2.1 31 = .ok (.getfield 54, 3) := by decide +kernel
theorem dc_Mo_findIn_34 : decode M_Mo_findIn.2.1 34 = .ok (.bipush 10, 2) := by decide +kernel
theorem dc_Mo_findIn_36 : decode M_Mo_findIn.2.1 36 = .ok (.iload_n 1, 1) := by decide +kernel
theorem dc_Mo_findIn_37 : decode M_Mo_findIn.2.1 37 = .ok (.imul, 1) := by decide +kernel
theorem dc_Mo_findIn_38 : decode M_Mo_findIn.2.1 38 = .ok (.iload 6, 2) := by decide +kernel
theorem dc_Mo_findIn_40 : decode M_Mo_findIn.2.1 40 = .ok (.iadd, 1) := by decide +kernel
theorem dc_Mo_findIn_41 : decode M_Mo_findIn.2.1 41 = .ok (.iaload, 1) := by decide +kernel
theorem dc_Mo_findIn_42 : decode M_Mo_findIn.2.1 42 = .ok (.goto 4, 3) := by decide +kernel
theorem dc_Mo_findIn_46 : decode M_Mo_findIn.2.1 46 = .ok (.iadd, 1) := by decide +kernel
theorem dc_Mo_findIn_47 : decode M_Mo_findIn.2.1 47 = .ok (.istore 5, 2) := by decide +kernel
theorem dc_Mo_findIn_49 : decode M_Mo_findIn.2.1 49 = .ok (.iinc 6 1, 3) := by decide +kernel
theorem dc_Mo_findIn_52 : decode M_Mo_findIn.2.1 52 = .ok (.goto (-46), 3) := by decide +kernel
theorem dc_Mo_findIn_62 : decode M_Mo_findIn.2.1 62 = .ok (.iload 6, 2) := by decide +kernel
theorem dc_Mo_findIn_64 : decode M_Mo_findIn.2.1 64 = .ok (.sipush 500, 3) := by decide +kernel
theorem dc_Mo_findIn_67 : decode M_Mo_findIn.2.1 67 = .ok (.iload_n 1, 1) := by decide +kernel
theorem dc_Mo_findIn_68 : decode M_Mo_findIn.2.1 68 = .ok (.imul, 1) := by decide +kernel
theorem dc_Mo_findIn_69 : decode M_Mo_findIn.2.1 69 = .ok (.iload 5, 2) := by decide +kernel
theorem dc_Mo_findIn_71 : decode M_Mo_findIn.2.1 71 = .ok (.iadd, 1) := by decide +kernel
theorem dc_Mo_findIn_72 : decode M_Mo_findIn.2.1 72 = .ok (.if_icmp .ge 102, 3) := by decide +kernel
theorem dc_Mo_findIn_174 : decode M_Mo_findIn.2.1 174 = .ok (.iconst (-1), 1) := by decide +kernel
theorem dc_Mo_findIn_175 : decode M_Mo_findIn.2.1 175 = .ok (.ireturn, 1) := by decide +kernel
theorem dc_Mo_findIn_75 : decode M_Mo_findIn.2.1 75 = .ok (.aload_n 0, 1) := by decide +kernel
theorem dc_Mo_findIn_76 : decode M_Mo_findIn.2.1 76 = .ok (.getfield 60, 3) := by decide +kernel
theorem dc_Mo_findIn_79 : decode M_Mo_findIn.2.1 79 = .ok (.iload 6, 2) := by decide +kernel
theorem dc_Mo_findIn_81 : decode M_Mo_findIn.2.1 81 = .ok (.iaload, 1) := by decide +kernel
theorem dc_Mo_findIn_82 : decode M_Mo_findIn.2.1 82 = .ok (.iload 4, 2) := by decide +kernel
theorem dc_Mo_findIn_84 : decode M_Mo_findIn.2.1 84 = .ok (.if_icmp .ne 7, 3) := by decide +kernel
theorem dc_Mo_findIn_91 : decode M_Mo_findIn.2.1 91 = .ok (.iconst 0, 1) := by decide +kernel
theorem dc_Mo_findIn_87 : decode M_Mo_findIn.2.1 87 = .ok (.iconst 1, 1) := by decide +kernel
theorem dc_Mo_findIn_88 : decode M_Mo_findIn.2.1 88 = .ok (.goto 4, 3) := by decide +kernel
theorem dc_Mo_findIn_92 : decode M_Mo_findIn.2.1 92 = .ok (.istore 7, 2) := by decide +kernel
theorem dc_Mo_findIn_94 : decode M_Mo_findIn.2.1 94 = .ok (.iconst 0, 1) := by decide +kernel
theorem dc_Mo_findIn_95 : decode M_Mo_findIn.2.1 95 = .ok (.istore 8, 2) := by decide +kernel
theorem dc_Mo_findIn_97 : decode M_Mo_findIn.2.1 97 = .ok (.iload 8, 2) := by decide +kernel
theorem dc_Mo_findIn_99 : decode M_Mo_findIn.2.1 99 = .ok (.iload 4, 2) := by decide +kernel
theorem dc_Mo_findIn_101 : decode M_Mo_findIn.2.1 101 = .ok (.if_icmp .ge 54, 3) := by decide +kernel
theorem dc_Mo_findIn_104 : decode M_Mo_findIn.2.1 104 = .ok (.iload 7, 2) := by decide +kernel
theorem dc_Mo_findIn_106 : decode M_Mo_findIn.2.1 106 = .ok (.ifCond .eq 49, 3) := by decide +kernel
theorem dc_Mo_findIn_109 : decode M_Mo_findIn.2.1 109 = .ok (.aload_n 0, 1) := by decide +kernel
theorem dc_Mo_findIn_110 : decode M_Mo_findIn.2.1 110 = .ok (.getfield 72, 3) := by decide +kernel
theorem dc_Mo_findIn_113 : decode M_Mo_findIn.2.1 113 = .ok (.aload_n 0, 1) := by decide +kernel
theorem dc_Mo_findIn_114 : decode M_Mo_findIn.2.1 114 = .ok (.getfield 57, 3) := by decide +kernel
theorem dc_Mo_findIn_117 : decode M_Mo_findIn.2.1 117 = .ok (.iload 6, 2) := by decide +kernel
theorem dc_Mo_findIn_119 : decode M_Mo_findIn.2.1 119 = .ok (.iaload, 1) := by decide +kernel
theorem dc_Mo_findIn_120 : decode M_Mo_findIn.2.1 120 = .ok (.iload 8, 2) := by decide +kernel
theorem dc_Mo_findIn_122 : decode M_Mo_findIn.2.1 122 = .ok (.iadd, 1) := by decide +kernel
theorem dc_Mo_findIn_123 : decode M_Mo_findIn.2.1 123 = .ok (.iaload, 1) := by decide +kernel
theorem dc_Mo_findIn_124 : decode M_Mo_findIn.2.1 124 = .ok (.aload_n 0, 1) := by decide +kernel
theorem dc_Mo_findIn_125 : decode M_Mo_findIn.2.1 125 = .ok (.getfield 45, 3) := by decide +kernel
theorem dc_Mo_findIn_128 : decode M_Mo_findIn.2.1 128 = .ok (.sipush 200, 3) := by decide +kernel
theorem dc_Mo_findIn_131 : decode M_Mo_findIn.2.1 131 = .ok (.iload_n 2, 1) := by decide +kernel
theorem dc_Mo_findIn_132 : decode M_Mo_findIn.2.1 132 = .ok (.imul, 1) := by decide +kernel
theorem dc_Mo_findIn_133 : decode M_Mo_findIn.2.1 133 = .ok (.iload_n 3, 1) := by decide +kernel
theorem dc_Mo_findIn_134 : decode M_Mo_findIn.2.1 134 = .ok (.iadd, 1) := by decide +kernel
theorem dc_Mo_findIn_135 : decode M_Mo_findIn.2.1 135 = .ok (.iload 8, 2) := by decide +kernel
theorem dc_Mo_findIn_137 : decode M_Mo_findIn.2.1 137 = .ok (.iadd, 1) := by decide +kernel
theorem dc_Mo_findIn_138 : decode M_Mo_findIn.2.1 138 = .ok (.iaload, 1) := by decide +kernel
theorem dc_Mo_findIn_139 : decode M_Mo_findIn.2.1 139 = .ok (.if_icmp .ne 7, 3) := by decide +kernel
theorem dc_Mo_findIn_146 : decode M_Mo_findIn.2.1 146 = .ok (.iconst 0, 1) := by decide +kernel
theorem dc_Mo_findIn_142 : decode M_Mo_findIn.2.1 142 = .ok (.iconst 1, 1) := by decide +kernel
theorem dc_Mo_findIn_143 : decode M_Mo_findIn.2.1 143 = .ok (.goto 4, 3) := by decide +kernel
theorem dc_Mo_findIn_147 : decode M_Mo_findIn.2.1 147 = .ok (.istore 7, 2) := by decide +kernel
theorem dc_Mo_findIn_149 : decode M_Mo_findIn.2.1 149 = .ok (.iinc 8 1, 3) := by decide +kernel
theorem dc_Mo_findIn_152 : decode M_Mo_findIn.2.1 152 = .ok (.goto (-55), 3) := by decide +kernel
theorem dc_Mo_findIn_155 : decode M_Mo_findIn.2.1 155 = .ok (.iload 7, 2) := by decide +kernel
theorem dc_Mo_findIn_157 : decode M_Mo_findIn.2.1 157 = .ok (.ifCond .eq 11, 3) := by decide +kernel
theorem dc_Mo_findIn_168 : decode M_Mo_findIn.2.1 168 = .ok (.iinc 6 1, 3) := by decide +kernel
theorem dc_Mo_findIn_171 : decode M_Mo_findIn.2.1 171 = .ok (.goto (-109), 3) := by decide +kernel
theorem dc_Mo_findIn_160 : decode M_Mo_findIn.2.1 160 = .ok (.aload_n 0, 1) := by decide +kernel
theorem dc_Mo_findIn_161 : decode M_Mo_findIn.2.1 161 = .ok (.getfield 57, 3) := by decide +kernel
theorem dc_Mo_findIn_164 : decode M_Mo_findIn.2.1 164 = .ok (.iload 6, 2) := by decide +kernel
theorem dc_Mo_findIn_166 : decode M_Mo_findIn.2.1 166 = .ok (.iaload, 1) := by decide +kernel
theorem dc_Mo_findIn_167 : decode M_Mo_findIn.2.1 167 = .ok (.ireturn, 1) := by decide +kernel
theorem dc_Mo_put_0 : decode M_Mo_put.2.1 0 = .ok (.aload_n 0, 1) := by decide +kernel
theorem dc_Mo_put_1 : decode M_Mo_put.2.1 1 = .ok (.getfield 146, 3) := by decide +kernel
theorem dc_Mo_put_4 : decode M_Mo_put.2.1 4 = .ok (.iload 4, 2) := by decide +kernel
theorem dc_Mo_put_6 : decode M_Mo_put.2.1 6 = .ok (.iadd, 1) := by decide +kernel
theorem dc_Mo_put_7 : decode M_Mo_put.2.1 7 = .ok (.bipush 60, 2) := by decide +kernel
theorem dc_Mo_put_9 : decode M_Mo_put.2.1 9 = .ok (.if_icmp .le 90, 3) := by decide +kernel
theorem dc_Mo_put_12 : decode M_Mo_put.2.1 12 = .ok (.aload_n 0, 1) := by decide +kernel
theorem dc_Mo_put_13 : decode M_Mo_put.2.1 13 = .ok (.getfield 63, 3) := by decide +kernel
theorem dc_Mo_put_16 : decode M_Mo_put.2.1 16 = .ok (.iload_n 1, 1) := by decide +kernel
theorem dc_Mo_put_17 : decode M_Mo_put.2.1 17 = .ok (.iaload, 1) := by decide +kernel
theorem dc_Mo_put_18 : decode M_Mo_put.2.1 18 = .ok (.bipush 40, 2) := by decide +kernel
theorem dc_Mo_put_20 : decode M_Mo_put.2.1 20 = .ok (.if_icmp .ne 5, 3) := by decide +kernel
theorem dc_Mo_put_25 : decode M_Mo_put.2.1 25 = .ok (.bipush 40, 2) := by decide +kernel
theorem dc_Mo_put_27 : decode M_Mo_put.2.1 27 = .ok (.iload_n 1, 1) := by decide +kernel
theorem dc_Mo_put_28 : decode M_Mo_put.2.1 28 = .ok (.imul, 1) := by decide +kernel
theorem dc_Mo_put_29 : decode M_Mo_put.2.1 29 = .ok (.aload_n 0, 1) := by decide +kernel
theorem dc_Mo_put_30 : decode M_Mo_put.2.1 30 = .ok (.getfield 63, 3) := by decide +kernel
theorem dc_Mo_put_33 : decode M_Mo_put.2.1 33 = .ok (.iload_n 1, 1) := by decide +kernel
theorem dc_Mo_put_34 : decode M_Mo_put.2.1 34 = .ok (.iaload, 1) := by decide +kernel
theorem dc_Mo_put_35 : decode M_Mo_put.2.1 35 = .ok (.iadd, 1) := by decide +kernel
theorem dc_Mo_put_36 : decode M_Mo_put.2.1 36 = .ok (.istore 5, 2) := by decide +kernel
theorem dc_Mo_put_38 : decode M_Mo_put.2.1 38 = .ok (.aload_n 0, 1) := by decide +kernel
theorem dc_Mo_put_39 : decode M_Mo_put.2.1 39 = .ok (.getfield 63, 3) := by decide +kernel
theorem dc_Mo_put_42 : decode M_Mo_put.2.1 42 = .ok (.iload_n 1, 1) := by decide +kernel
theorem dc_Mo_put_43 : decode M_Mo_put.2.1 43 = .ok (.dup2, 1) := by decide +kernel
theorem dc_Mo_put_44 : decode M_Mo_put.2.1 44 = .ok (.iaload, 1) := by decide +kernel
theorem dc_Mo_put_45 : decode M_Mo_put.2.1 45 = .ok (.iconst 1, 1) := by decide +kernel
theorem dc_Mo_put_46 : decode M_Mo_put.2.1 46 = .ok (.iadd, 1) := by decide +kernel
theorem dc_Mo_put_47 : decode M_Mo_put.2.1 47 = .ok (.iastore, 1) := by decide +kernel
theorem dc_Mo_put_48 : decode M_Mo_put.2.1 48 = .ok (.aload_n 0, 1) := by decide +kernel
theorem dc_Mo_put_49 : decode M_Mo_put.2.1 49 = .ok (.getfield 66, 3) := by decide +kernel
theorem dc_Mo_put_52 : decode M_Mo_put.2.1 52 = .ok (.iload 5, 2) := by decide +kernel
theorem dc_Mo_put_54 : decode M_Mo_put.2.1 54 = .ok (.iconst 0, 1) := by decide +kernel
theorem dc_Mo_put_55 : decode M_Mo_put.2.1 55 = .ok (.bastore, 1) := by decide +kernel
theorem dc_Mo_put_56 : decode M_Mo_put.2.1 56 = .ok (.aload_n 0, 1) := by decide +kernel
theorem dc_Mo_put_57 : decode M_Mo_put.2.1 57 = .ok (.getfield 69, 3) := by decide +kernel
theorem dc_Mo_put_60 : decode M_Mo_put.2.1 60 = .ok (.iload 5, 2) := by decide +kernel
theorem dc_Mo_put_62 : decode M_Mo_put.2.1 62 = .ok (.iconst 0, 1) := by decide +kernel
theorem dc_Mo_put_63 : decode M_Mo_put.2.1 63 = .ok (.bastore, 1) := by decide +kernel
theorem dc_Mo_put_64 : decode M_Mo_put.2.1 64 = .ok (.iconst 0, 1) := by decide +kernel
theorem dc_Mo_put_65 : decode M_Mo_put.2.1 65 = .ok (.istore 6, 2) := by decide +kernel
theorem dc_Mo_put_23 : decode M_Mo_put.2.1 23 = .ok (.iconst (-1), 1) := by decide +kernel
theorem dc_Mo_put_24 : decode M_Mo_put.2.1 24 = .ok (.ireturn, 1) := by decide +kernel
theorem dc_Mo_put_67 : decode M_Mo_put.2.1 67 = .ok (.iload 6, 2) := by decide +kernel
theorem dc_Mo_put_69 : decode M_Mo_put.2.1 69 = .ok (.bipush 60, 2) := by decide +kernel
theorem dc_Mo_put_71 : decode M_Mo_put.2.1 71 = .ok (.if_icmp .ge 23, 3) := by decide +kernel
theorem dc_Mo_put_94 : decode M_Mo_put.2.1 94 = .ok (.aload_n 0, 1) := by decide +kernel
theorem dc_Mo_put_95 : decode M_Mo_put.2.1 95 = .ok (.iconst 0, 1) := by decide +kernel
theorem dc_Mo_put_96 : decode M_Mo_put.2.1 96 = .ok (.putfield 146, 3) := by decide +kernel
theorem kp_Mo_put_9_30 : fpB M_Mo_put 9 30 = true := by decide +kernel
theorem dc_Mo_put_74 : decode M_Mo_put.2.1 74 = .ok (.aload_n 0, 1) := by decide +kernel
theorem dc_Mo_put_75 : decode M_Mo_put.2.1 75 = .ok (.getfield 72, 3) := by decide +kernel
theorem dc_Mo_put_78 : decode M_Mo_put.2.1 78 = .ok (.bipush 60, 2) := by decide +kernel
theorem dc_Mo_put_80 : decode M_Mo_put.2.1 80 = .ok (.iload 5, 2) := by decide +kernel
theorem dc_Mo_put_82 : decode M_Mo_put.2.1 82 = .ok (.imul, 1) := by decide +kernel
theorem dc_Mo_put_83 : decode M_Mo_put.2.1 83 = .ok (.iload 6, 2) := by decide +kernel
theorem dc_Mo_put_85 : decode M_Mo_put.2.1 85 = .ok (.iadd, 1) := by decide +kernel
theorem dc_Mo_put_86 : decode M_Mo_put.2.1 86 = .ok (.iconst 0, 1) := by decide +kernel
theorem dc_Mo_put_87 : decode M_Mo_put.2.1 87 = .ok (.iastore, 1) := by decide +kernel
theorem dc_Mo_put_88 : decode M_Mo_put.2.1 88 = .ok (.iinc 6 1, 3) := by decide +kernel
theorem dc_Mo_put_91 : decode M_Mo_put.2.1 91 = .ok (.goto (-24), 3) := by decide +kernel
theorem dc_Mo_put_99 : decode M_Mo_put.2.1 99 = .ok (.bipush 60, 2) := by decide +kernel
theorem dc_Mo_put_101 : decode M_Mo_put.2.1 101 = .ok (.bipush 40, 2) := by decide +kernel
theorem dc_Mo_put_103 : decode M_Mo_put.2.1 103 = .ok (.iload_n 1, 1) := by decide +kernel
theorem dc_Mo_put_104 : decode M_Mo_put.2.1 104 = .ok (.imul, 1) := by decide +kernel
theorem dc_Mo_put_105 : decode M_Mo_put.2.1 105 = .ok (.aload_n 0, 1) := by decide +kernel
theorem dc_Mo_put_106 : decode M_Mo_put.2.1 106 = .ok (.getfield 63, 3) := by decide +kernel
theorem dc_Mo_put_109 : decode M_Mo_put.2.1 109 = .ok (.iload_n 1, 1) := by decide +kernel
theorem dc_Mo_put_110 : decode M_Mo_put.2.1 110 = .ok (.iaload, 1) := by decide +kernel
theorem dc_Mo_put_111 : decode M_Mo_put.2.1 111 = .ok (.iadd, 1) := by decide +kernel
theorem dc_Mo_put_112 : decode M_Mo_put.2.1 112 = .ok (.iconst 1, 1) := by decide +kernel
theorem dc_Mo_put_113 : decode M_Mo_put.2.1 113 = .ok (.isub, 1) := by decide +kernel
theorem dc_Mo_put_114 : decode M_Mo_put.2.1 114 = .ok (.imul, 1) := by decide +kernel
theorem dc_Mo_put_115 : decode M_Mo_put.2.1 115 = .ok (.aload_n 0, 1) := by decide +kernel
theorem dc_Mo_put_116 : decode M_Mo_put.2.1 116 = .ok (.getfield 146, 3) := by decide +kernel
theorem dc_Mo_put_119 : decode M_Mo_put.2.1 119 = .ok (.iadd, 1) := by decide +kernel
theorem dc_Mo_put_120 : decode M_Mo_put.2.1 120 = .ok (.istore 5, 2) := by decide +kernel
theorem dc_Mo_put_122 : decode M_Mo_put.2.1 122 = .ok (.iconst 0, 1) := by decide +kernel
theorem dc_Mo_put_123 : decode M_Mo_put.2.1 123 = .ok (.istore 6, 2) := by decide +kernel
theorem dc_Mo_put_125 : decode M_Mo_put.2.1 125 = .ok (.iload 6, 2) := by decide +kernel
theorem dc_Mo_put_127 : decode M_Mo_put.2.1 127 = .ok (.iload 4, 2) := by decide +kernel
theorem dc_Mo_put_129 : decode M_Mo_put.2.1 129 = .ok (.if_icmp .ge 34, 3) := by decide +kernel
theorem dc_Mo_put_163 : decode M_Mo_put.2.1 163 = .ok (.aload_n 0, 1) := by decide +kernel
theorem dc_Mo_put_164 : decode M_Mo_put.2.1 164 = .ok (.aload_n 0, 1) := by decide +kernel
theorem dc_Mo_put_165 : decode M_Mo_put.2.1 165 = .ok (.getfield 146, 3) := by decide +kernel
theorem dc_Mo_put_168 : decode M_Mo_put.2.1 168 = .ok (.iload 4, 2) := by decide +kernel
theorem dc_Mo_put_170 : decode M_Mo_put.2.1 170 = .ok (.iadd, 1) := by decide +kernel
theorem dc_Mo_put_171 : decode M_Mo_put.2.1 171 = .ok (.putfield 146, 3) := by decide +kernel
theorem dc_Mo_put_174 : decode M_Mo_put.2.1 174 = .ok (.iload 5, 2) := by decide +kernel
theorem dc_Mo_put_176 : decode M_Mo_put.2.1 176 = .ok (.ireturn, 1) := by decide +kernel
theorem dc_Mo_put_132 : decode M_Mo_put.2.1 132 = .ok (.aload_n 0, 1) := by decide +kernel
theorem dc_Mo_put_133 : decode M_Mo_put.2.1 133 = .ok (.getfield 72, 3) := by decide +kernel
theorem dc_Mo_put_136 : decode M_Mo_put.2.1 136 = .ok (.iload 5, 2) := by decide +kernel
theorem dc_Mo_put_138 : decode M_Mo_put.2.1 138 = .ok (.iload 6, 2) := by decide +kernel
theorem dc_Mo_put_140 : decode M_Mo_put.2.1 140 = .ok (.iadd, 1) := by decide +kernel
theorem dc_Mo_put_141 : decode M_Mo_put.2.1 141 = .ok (.aload_n 0, 1) := by decide +kernel
theorem dc_Mo_put_142 : decode M_Mo_put.2.1 142 = .ok (.getfield 45, 3) := by decide +kernel
theorem dc_Mo_put_145 : decode M_Mo_put.2.1 145 = .ok (.sipush 200, 3) := by decide +kernel
theorem dc_Mo_put_148 : decode M_Mo_put.2.1 148 = .ok (.iload_n 2, 1) := by decide +kernel
theorem dc_Mo_put_149 : decode M_Mo_put.2.1 149 = .ok (.imul, 1) := by decide +kernel
theorem dc_Mo_put_150 : decode M_Mo_put.2.1 150 = .ok (.iload_n 3, 1) := by decide +kernel
theorem dc_Mo_put_151 : decode M_Mo_put.2.1 151 = .ok (.iadd, 1) := by decide +kernel
theorem dc_Mo_put_152 : decode M_Mo_put.2.1 152 = .ok (.iload 6, 2) := by decide +kernel
theorem dc_Mo_put_154 : decode M_Mo_put.2.1 154 = .ok (.iadd, 1) := by decide +kernel
theorem dc_Mo_put_155 : decode M_Mo_put.2.1 155 = .ok (.iaload, 1) := by decide +kernel
theorem dc_Mo_put_156 : decode M_Mo_put.2.1 156 = .ok (.iastore, 1) := by decide +kernel
theorem dc_Mo_put_157 : decode M_Mo_put.2.1 157 = .ok (.iinc 6 1, 3) := by decide +kernel
theorem dc_Mo_put_160 : decode M_Mo_put.2.1 160 = .ok (.goto (-35), 3) := by decide +kernel
theorem dc_Mo_push_0 : decode M_Mo_push.2.1 0 = .ok (.aload_n 0, 1) := by decide +kernel
theorem dc_Mo_push_1 : decode M_Mo_push.2.1 1 = .ok (.aload_n 0, 1) := by decide +kernel
theorem dc_Mo_push_2 : decode M_Mo_push.2.1 2 = .ok (.iload_n 1, 1) := by decide +kernel
theorem dc_Mo_push_3 : decode M_Mo_push.2.1 3 = .ok (.invokevirtual 120, 3) := by decide +kernel
theorem dc_Mo_push_6 : decode M_Mo_push.2.1 6 = .ok (.ifCond .ne 7, 3) := by decide +kernel
theorem dc_Mo_push_13 : decode M_Mo_push.2.1 13 = .ok (.aload_n 0, 1) := by decide +kernel
theorem dc_Mo_push_14 : decode M_Mo_push.2.1 14 = .ok (.getfield 24, 3) := by decide +kernel
theorem dc_Mo_push_17 : decode M_Mo_push.2.1 17 = .ok (.iload_n 1, 1) := by decide +kernel
theorem dc_Mo_push_18 : decode M_Mo_push.2.1 18 = .ok (.baload, 1) := by decide +kernel
theorem dc_Mo_push_19 : decode M_Mo_push.2.1 19 = .ok (.ifCond .ne 12, 3) := by decide +kernel
theorem dc_Mo_push_22 : decode M_Mo_push.2.1 22 = .ok (.aload_n 0, 1) := by decide +kernel
theorem dc_Mo_push_23 : decode M_Mo_push.2.1 23 = .ok (.getfield 20, 3) := by decide +kernel
theorem dc_Mo_push_26 : decode M_Mo_push.2.1 26 = .ok (.iload_n 1, 1) := by decide +kernel
theorem dc_Mo_push_27 : decode M_Mo_push.2.1 27 = .ok (.baload, 1) := by decide +kernel
theorem dc_Mo_push_28 : decode M_Mo_push.2.1 28 = .ok (.ifCond .ne 7, 3) := by decide +kernel
theorem dc_Mo_push_35 : decode M_Mo_push.2.1 35 = .ok (.iconst 0, 1) := by decide +kernel
theorem dc_Mo_push_9 : decode M_Mo_push.2.1 9 = .ok (.iconst 1, 1) := by decide +kernel
theorem dc_Mo_push_10 : decode M_Mo_push.2.1 10 = .ok (.goto 26, 3) := by decide +kernel
theorem dc_Mo_push_31 : decode M_Mo_push.2.1 31 = .ok (.iconst 2, 1) := by decide +kernel
theorem dc_Mo_push_32 : decode M_Mo_push.2.1 32 = .ok (.goto 4, 3) := by decide +kernel
theorem dc_Mo_push_36 : decode M_Mo_push.2.1 36 = .ok (.invokevirtual 132, 3) := by decide +kernel
theorem dc_Mo_push_39 : decode M_Mo_push.2.1 39 = .ok (.ifCond .eq 5, 3) := by decide +kernel
theorem dc_Mo_push_44 : decode M_Mo_push.2.1 44 = .ok (.iconst 0, 1) := by decide +kernel
theorem dc_Mo_push_45 : decode M_Mo_push.2.1 45 = .ok (.istore_n 2, 1) := by decide +kernel
theorem dc_Mo_push_46 : decode M_Mo_push.2.1 46 = .ok (.bipush 40, 2) := by decide +kernel
theorem dc_Mo_push_48 : decode M_Mo_push.2.1 48 = .ok (.iload_n 1, 1) := by decide +kernel
theorem dc_Mo_push_49 : decode M_Mo_push.2.1 49 = .ok (.imul, 1) := by decide +kernel
theorem dc_Mo_push_50 : decode M_Mo_push.2.1 50 = .ok (.istore_n 3, 1) := by decide +kernel
theorem dc_Mo_push_42 : decode M_Mo_push.2.1 42 = .ok (.iconst 0, 1) := by decide +kernel
theorem dc_Mo_push_43 : decode M_Mo_push.2.1 43 = .ok (.ireturn, 1) := by decide +kernel
theorem dc_Mo_push_51 : decode M_Mo_push.2.1 51 = .ok (.iload_n 3, 1) := by decide +kernel
theorem dc_Mo_push_52 : decode M_Mo_push.2.1 52 = .ok (.bipush 40, 2) := by decide +kernel
theorem dc_Mo_push_54 : decode M_Mo_push.2.1 54 = .ok (.iload_n 1, 1) := by decide +kernel
theorem dc_Mo_push_55 : decode M_Mo_push.2.1 55 = .ok (.imul, 1) := by decide +kernel
theorem dc_Mo_push_56 : decode M_Mo_push.2.1 56 = .ok (.aload_n 0, 1) := by decide +kernel
theorem dc_Mo_push_57 : decode M_Mo_push.2.1 57 = .ok (.getfield 63, 3) := by decide +kernel
theorem dc_Mo_push_60 : decode M_Mo_push.2.1 60 = .ok (.iload_n 1, 1) := by decide +kernel
theorem dc_Mo_push_61 : decode M_Mo_push.2.1 61 = .ok (.iaload, 1) := by decide +kernel
theorem dc_Mo_push_62 : decode M_Mo_push.2.1 62 = .ok (.iadd, 1) := by decide +kernel
theorem dc_Mo_push_63 : decode M_Mo_push.2.1 63 = .ok (.if_icmp .ge 31, 3) := by decide +kernel
theorem dc_Mo_push_94 : decode M_Mo_push.2.1 94 = .ok (.iload_n 2, 1) := by decide +kernel
theorem dc_Mo_push_95 : decode M_Mo_push.2.1 95 = .ok (.ireturn, 1) := by decide +kernel
theorem dc_Mo_push_66 : decode M_Mo_push.2.1 66 = .ok (.aload_n 0, 1) := by decide +kernel
theorem dc_Mo_push_67 : decode M_Mo_push.2.1 67 = .ok (.getfield 69, 3) := by decide +kernel
theorem dc_Mo_push_70 : decode M_Mo_push.2.1 70 = .ok (.iload_n 3, 1) := by decide +kernel
theorem dc_Mo_push_71 : decode M_Mo_push.2.1 71 = .ok (.baload, 1) := by decide +kernel
theorem dc_Mo_push_72 : decode M_Mo_push.2.1 72 = .ok (.ifCond .eq 14, 3) := by decide +kernel
theorem dc_Mo_push_86 : decode M_Mo_push.2.1 86 = .ok (.iload_n 2, 1) := by decide +kernel
theorem dc_Mo_push_75 : decode M_Mo_push.2.1 75 = .ok (.iload_n 2, 1) := by decide +kernel
theorem dc_Mo_push_76 : decode M_Mo_push.2.1 76 = .ok (.aload_n 0, 1) := by decide +kernel
theorem dc_Mo_push_77 : decode M_Mo_push.2.1 77 = .ok (.iload_n 1, 1) := by decide +kernel
theorem dc_Mo_push_78 : decode M_Mo_push.2.1 78 = .ok (.iload_n 3, 1) := by decide +kernel
theorem dc_Mo_push_79 : decode M_Mo_push.2.1 79 = .ok (.invokevirtual 206, 3) := by decide +kernel
theorem km_9_206 : rM 9 206 = some (1, M_Mo_placeAll) := rM_at (j := 148) (p := 1157) (by decide +kernel) rfl
theorem np_Mo_placeAll : nP M_Mo_placeAll = 2 := by decide +kernel
theorem dc_Mo_push_82 : decode M_Mo_push.2.1 82 = .ok (.iadd, 1) := by decide +kernel
theorem dc_Mo_push_83 : decode M_Mo_push.2.1 83 = .ok (.goto 4, 3) := by decide +kernel
theorem dc_Mo_push_87 : decode M_Mo_push.2.1 87 = .ok (.istore_n 2, 1) := by decide +kernel
theorem dc_Mo_push_88 : decode M_Mo_push.2.1 88 = .ok (.iinc 3 1, 3) := by decide +kernel
theorem dc_Mo_push_91 : decode M_Mo_push.2.1 91 = .ok (.goto (-40), 3) := by decide +kernel
theorem dc_Mo_placeAll_0 : decode M_Mo_placeAll.2.1 0 = .ok (.iconst 0, 1) := by decide +kernel
theorem dc_Mo_placeAll_1 : decode M_Mo_placeAll.2.1 1 = .ok (.istore_n 3, 1) := by decide +kernel
theorem dc_Mo_placeAll_2 : decode M_Mo_placeAll.2.1 2 = .ok (.iconst 0, 1) := by decide +kernel
theorem dc_Mo_placeAll_3 : decode M_Mo_placeAll.2.1 3 = .ok (.istore 4, 2) := by decide +kernel
theorem dc_Mo_placeAll_5 : decode M_Mo_placeAll.2.1 5 = .ok (.iload 4, 2) := by decide +kernel
theorem dc_Mo_placeAll_7 : decode M_Mo_placeAll.2.1 7 = .ok (.aload_n 0, 1) := by decide +kernel
theorem dc_Mo_placeAll_8 : decode M_Mo_placeAll.2.1 8 = .ok (.getfield 13, 3) := by decide +kernel
theorem dc_Mo_placeAll_11 : decode M_Mo_placeAll.2.1 11 = .ok (.if_icmp .ge 38, 3) := by decide +kernel
theorem dc_Mo_placeAll_49 : decode M_Mo_placeAll.2.1 49 = .ok (.iload_n 3, 1) := by decide +kernel
theorem dc_Mo_placeAll_50 : decode M_Mo_placeAll.2.1 50 = .ok (.ireturn, 1) := by decide +kernel
theorem dc_Mo_placeAll_14 : decode M_Mo_placeAll.2.1 14 = .ok (.aload_n 0, 1) := by decide +kernel
theorem dc_Mo_placeAll_15 : decode M_Mo_placeAll.2.1 15 = .ok (.getfield 78, 3) := by decide +kernel
theorem dc_Mo_placeAll_18 : decode M_Mo_placeAll.2.1 18 = .ok (.bipush 12, 2) := by decide +kernel
theorem dc_Mo_placeAll_20 : decode M_Mo_placeAll.2.1 20 = .ok (.iload_n 2, 1) := by decide +kernel
theorem dc_Mo_placeAll_21 : decode M_Mo_placeAll.2.1 21 = .ok (.imul, 1) := by decide +kernel
theorem dc_Mo_placeAll_22 : decode M_Mo_placeAll.2.1 22 = .ok (.iload 4, 2) := by decide +kernel
theorem dc_Mo_placeAll_24 : decode M_Mo_placeAll.2.1 24 = .ok (.iadd, 1) := by decide +kernel
theorem dc_Mo_placeAll_25 : decode M_Mo_placeAll.2.1 25 = .ok (.iaload, 1) := by decide +kernel
theorem dc_Mo_placeAll_26 : decode M_Mo_placeAll.2.1 26 = .ok (.ifCond .ge 17, 3) := by decide +kernel
theorem dc_Mo_placeAll_29 : decode M_Mo_placeAll.2.1 29 = .ok (.aload_n 0, 1) := by decide +kernel
theorem dc_Mo_placeAll_30 : decode M_Mo_placeAll.2.1 30 = .ok (.iload_n 1, 1) := by decide +kernel
theorem dc_Mo_placeAll_31 : decode M_Mo_placeAll.2.1 31 = .ok (.iload_n 2, 1) := by decide +kernel
theorem dc_Mo_placeAll_32 : decode M_Mo_placeAll.2.1 32 = .ok (.iload 4, 2) := by decide +kernel
theorem dc_Mo_placeAll_34 : decode M_Mo_placeAll.2.1 34 = .ok (.invokevirtual 203, 3) := by decide +kernel
theorem km_9_203 : rM 9 203 = some (1, M_Mo_place) := rM_at (j := 149) (p := 1161) (by decide +kernel) rfl
theorem np_Mo_place : nP M_Mo_place = 3 := by decide +kernel
theorem dc_Mo_placeAll_37 : decode M_Mo_placeAll.2.1 37 = .ok (.ifCond .eq 6, 3) := by decide +kernel
theorem dc_Mo_placeAll_40 : decode M_Mo_placeAll.2.1 40 = .ok (.iinc 3 1, 3) := by decide +kernel
theorem dc_Mo_placeAll_43 : decode M_Mo_placeAll.2.1 43 = .ok (.iinc 4 1, 3) := by decide +kernel
theorem dc_Mo_placeAll_46 : decode M_Mo_placeAll.2.1 46 = .ok (.goto (-41), 3) := by decide +kernel
theorem dc_Mo_place_0 : decode M_Mo_place.2.1 0 = .ok (.iconst (-1), 1) := by decide +kernel
theorem dc_Mo_place_1 : decode M_Mo_place.2.1 1 = .ok (.istore 4, 2) := by decide +kernel
theorem dc_Mo_place_3 : decode M_Mo_place.2.1 3 = .ok (.iconst 0, 1) := by decide +kernel
theorem dc_Mo_place_4 : decode M_Mo_place.2.1 4 = .ok (.istore 5, 2) := by decide +kernel
theorem dc_Mo_place_6 : decode M_Mo_place.2.1 6 = .ok (.iload 5, 2) := by decide +kernel
theorem dc_Mo_place_8 : decode M_Mo_place.2.1 8 = .ok (.bipush 10, 2) := by decide +kernel
theorem dc_Mo_place_10 : decode M_Mo_place.2.1 10 = .ok (.if_icmp .ge 123, 3) := by decide +kernel
theorem dc_Mo_place_133 : decode M_Mo_place.2.1 133 = .ok (.iload 4, 2) := by decide +kernel
theorem dc_Mo_place_135 : decode M_Mo_place.2.1 135 = .ok (.ifCond .ge 5, 3) := by decide +kernel
theorem dc_Mo_place_140 : decode M_Mo_place.2.1 140 = .ok (.bipush 12, 2) := by decide +kernel
theorem dc_Mo_place_142 : decode M_Mo_place.2.1 142 = .ok (.iload_n 2, 1) := by decide +kernel
theorem dc_Mo_place_143 : decode M_Mo_place.2.1 143 = .ok (.imul, 1) := by decide +kernel
theorem dc_Mo_place_144 : decode M_Mo_place.2.1 144 = .ok (.iload_n 3, 1) := by decide +kernel
theorem dc_Mo_place_145 : decode M_Mo_place.2.1 145 = .ok (.iadd, 1) := by decide +kernel
theorem dc_Mo_place_146 : decode M_Mo_place.2.1 146 = .ok (.istore 5, 2) := by decide +kernel
theorem dc_Mo_place_148 : decode M_Mo_place.2.1 148 = .ok (.aload_n 0, 1) := by decide +kernel
theorem dc_Mo_place_149 : decode M_Mo_place.2.1 149 = .ok (.invokevirtual 166, 3) := by decide +kernel
theorem km_9_166 : rM 9 166 = some (1, M_Mo_length) := rM_at (j := 152) (p := 1173) (by decide +kernel) rfl
theorem np_Mo_length : nP M_Mo_length = 0 := by decide +kernel
theorem dc_Mo_place_138 : decode M_Mo_place.2.1 138 = .ok (.iconst 0, 1) := by decide +kernel
theorem dc_Mo_place_139 : decode M_Mo_place.2.1 139 = .ok (.ireturn, 1) := by decide +kernel
theorem dc_Mo_place_13 : decode M_Mo_place.2.1 13 = .ok (.iload 5, 2) := by decide +kernel
theorem dc_Mo_place_15 : decode M_Mo_place.2.1 15 = .ok (.iload_n 1, 1) := by decide +kernel
theorem dc_Mo_place_16 : decode M_Mo_place.2.1 16 = .ok (.if_icmp .eq 74, 3) := by decide +kernel
theorem dc_Mo_place_19 : decode M_Mo_place.2.1 19 = .ok (.aload_n 0, 1) := by decide +kernel
theorem dc_Mo_place_20 : decode M_Mo_place.2.1 20 = .ok (.getfield 16, 3) := by decide +kernel
theorem dc_Mo_place_23 : decode M_Mo_place.2.1 23 = .ok (.iload 5, 2) := by decide +kernel
theorem dc_Mo_place_25 : decode M_Mo_place.2.1 25 = .ok (.iaload, 1) := by decide +kernel
theorem dc_Mo_place_26 : decode M_Mo_place.2.1 26 = .ok (.ifCond .le 64, 3) := by decide +kernel
theorem dc_Mo_place_29 : decode M_Mo_place.2.1 29 = .ok (.aload_n 0, 1) := by decide +kernel
theorem dc_Mo_place_30 : decode M_Mo_place.2.1 30 = .ok (.getfield 20, 3) := by decide +kernel
theorem dc_Mo_place_33 : decode M_Mo_place.2.1 33 = .ok (.iload 5, 2) := by decide +kernel
theorem dc_Mo_place_35 : decode M_Mo_place.2.1 35 = .ok (.baload, 1) := by decide +kernel
theorem dc_Mo_place_36 : decode M_Mo_place.2.1 36 = .ok (.ifCond .eq 54, 3) := by decide +kernel
theorem dc_Mo_place_39 : decode M_Mo_place.2.1 39 = .ok (.aload_n 0, 1) := by decide +kernel
theorem dc_Mo_place_40 : decode M_Mo_place.2.1 40 = .ok (.getfield 24, 3) := by decide +kernel
theorem dc_Mo_place_43 : decode M_Mo_place.2.1 43 = .ok (.iload 5, 2) := by decide +kernel
theorem dc_Mo_place_45 : decode M_Mo_place.2.1 45 = .ok (.baload, 1) := by decide +kernel
theorem dc_Mo_place_46 : decode M_Mo_place.2.1 46 = .ok (.ifCond .ne 44, 3) := by decide +kernel
theorem dc_Mo_place_49 : decode M_Mo_place.2.1 49 = .ok (.aload_n 0, 1) := by decide +kernel
theorem dc_Mo_place_50 : decode M_Mo_place.2.1 50 = .ok (.getfield 33, 3) := by decide +kernel
theorem dc_Mo_place_53 : decode M_Mo_place.2.1 53 = .ok (.bipush 10, 2) := by decide +kernel
theorem dc_Mo_place_55 : decode M_Mo_place.2.1 55 = .ok (.iload 5, 2) := by decide +kernel
theorem dc_Mo_place_57 : decode M_Mo_place.2.1 57 = .ok (.imul, 1) := by decide +kernel
theorem dc_Mo_place_58 : decode M_Mo_place.2.1 58 = .ok (.iload_n 1, 1) := by decide +kernel
theorem dc_Mo_place_59 : decode M_Mo_place.2.1 59 = .ok (.iadd, 1) := by decide +kernel
theorem dc_Mo_place_60 : decode M_Mo_place.2.1 60 = .ok (.iaload, 1) := by decide +kernel
theorem dc_Mo_place_61 : decode M_Mo_place.2.1 61 = .ok (.aload_n 0, 1) := by decide +kernel
theorem dc_Mo_place_62 : decode M_Mo_place.2.1 62 = .ok (.getfield 30, 3) := by decide +kernel
theorem dc_Mo_place_65 : decode M_Mo_place.2.1 65 = .ok (.bipush 10, 2) := by decide +kernel
theorem dc_Mo_place_67 : decode M_Mo_place.2.1 67 = .ok (.iload 5, 2) := by decide +kernel
theorem dc_Mo_place_69 : decode M_Mo_place.2.1 69 = .ok (.imul, 1) := by decide +kernel
theorem dc_Mo_place_70 : decode M_Mo_place.2.1 70 = .ok (.iload_n 1, 1) := by decide +kernel
theorem dc_Mo_place_71 : decode M_Mo_place.2.1 71 = .ok (.iadd, 1) := by decide +kernel
theorem dc_Mo_place_72 : decode M_Mo_place.2.1 72 = .ok (.iaload, 1) := by decide +kernel
theorem dc_Mo_place_73 : decode M_Mo_place.2.1 73 = .ok (.if_icmp .ge 17, 3) := by decide +kernel
theorem dc_Mo_place_76 : decode M_Mo_place.2.1 76 = .ok (.aload_n 0, 1) := by decide +kernel
theorem dc_Mo_place_77 : decode M_Mo_place.2.1 77 = .ok (.iload 5, 2) := by decide +kernel
theorem dc_Mo_place_79 : decode M_Mo_place.2.1 79 = .ok (.iload_n 2, 1) := by decide +kernel
theorem dc_Mo_place_80 : decode M_Mo_place.2.1 80 = .ok (.invokevirtual 189, 3) := by decide +kernel
theorem km_9_189 : rM 9 189 = some (1, M_Mo_hasOf) := rM_at (j := 150) (p := 1165) (by decide +kernel) rfl
theorem np_Mo_hasOf : nP M_Mo_hasOf = 2 := by decide +kernel
theorem dc_Mo_place_83 : decode M_Mo_place.2.1 83 = .ok (.ifCond .ne 7, 3) := by decide +kernel
theorem dc_Mo_place_86 : decode M_Mo_place.2.1 86 = .ok (.iconst 1, 1) := by decide +kernel
theorem dc_Mo_place_87 : decode M_Mo_place.2.1 87 = .ok (.goto 4, 3) := by decide +kernel
theorem dc_Mo_place_90 : decode M_Mo_place.2.1 90 = .ok (.iconst 0, 1) := by decide +kernel
theorem dc_Mo_place_91 : decode M_Mo_place.2.1 91 = .ok (.istore 6, 2) := by decide +kernel
theorem dc_Mo_place_93 : decode M_Mo_place.2.1 93 = .ok (.iload 6, 2) := by decide +kernel
theorem dc_Mo_place_95 : decode M_Mo_place.2.1 95 = .ok (.ifCond .eq 28, 3) := by decide +kernel
theorem dc_Mo_place_98 : decode M_Mo_place.2.1 98 = .ok (.iload 4, 2) := by decide +kernel
theorem dc_Mo_place_100 : decode M_Mo_place.2.1 100 = .ok (.ifCond .lt 18, 3) := by decide +kernel
theorem dc_Mo_place_103 : decode M_Mo_place.2.1 103 = .ok (.aload_n 0, 1) := by decide +kernel
theorem dc_Mo_place_104 : decode M_Mo_place.2.1 104 = .ok (.iload 5, 2) := by decide +kernel
theorem dc_Mo_place_106 : decode M_Mo_place.2.1 106 = .ok (.invokevirtual 192, 3) := by decide +kernel
theorem km_9_192 : rM 9 192 = some (1, M_Mo_keeps) := rM_at (j := 151) (p := 1169) (by decide +kernel) rfl
theorem np_Mo_keeps : nP M_Mo_keeps = 1 := by decide +kernel
theorem dc_Mo_place_109 : decode M_Mo_place.2.1 109 = .ok (.aload_n 0, 1) := by decide +kernel
theorem dc_Mo_place_110 : decode M_Mo_place.2.1 110 = .ok (.iload 4, 2) := by decide +kernel
theorem dc_Mo_place_112 : decode M_Mo_place.2.1 112 = .ok (.invokevirtual 192, 3) := by decide +kernel
theorem dc_Mo_place_115 : decode M_Mo_place.2.1 115 = .ok (.if_icmp .ge 8, 3) := by decide +kernel
theorem dc_Mo_place_118 : decode M_Mo_place.2.1 118 = .ok (.iload 5, 2) := by decide +kernel
theorem dc_Mo_place_120 : decode M_Mo_place.2.1 120 = .ok (.goto 5, 3) := by decide +kernel
theorem dc_Mo_place_123 : decode M_Mo_place.2.1 123 = .ok (.iload 4, 2) := by decide +kernel
theorem dc_Mo_place_125 : decode M_Mo_place.2.1 125 = .ok (.istore 4, 2) := by decide +kernel
theorem dc_Mo_place_127 : decode M_Mo_place.2.1 127 = .ok (.iinc 5 1, 3) := by decide +kernel
theorem dc_Mo_place_130 : decode M_Mo_place.2.1 130 = .ok (.goto (-124), 3) := by decide +kernel
theorem dc_Mo_place_152 : decode M_Mo_place.2.1 152 = .ok (.istore 6, 2) := by decide +kernel
theorem dc_Mo_place_154 : decode M_Mo_place.2.1 154 = .ok (.aload_n 0, 1) := by decide +kernel
theorem dc_Mo_place_155 : decode M_Mo_place.2.1 155 = .ok (.aload_n 0, 1) := by decide +kernel
theorem dc_Mo_place_156 : decode M_Mo_place.2.1 156 = .ok (.getfield 75, 3) := by decide +kernel
theorem dc_Mo_place_159 : decode M_Mo_place.2.1 159 = .ok (.iload_n 2, 1) := by decide +kernel
theorem dc_Mo_place_160 : decode M_Mo_place.2.1 160 = .ok (.iload_n 3, 1) := by decide +kernel
theorem dc_Mo_place_161 : decode M_Mo_place.2.1 161 = .ok (.invokevirtual 195, 3) := by decide +kernel
theorem km_9_195 : rM 9 195 = some (1, M_Mo_makePiece) := rM_at (j := 153) (p := 1177) (by decide +kernel) rfl
theorem np_Mo_makePiece : nP M_Mo_makePiece = 3 := by decide +kernel
theorem dc_Mo_place_164 : decode M_Mo_place.2.1 164 = .ok (.iconst 0, 1) := by decide +kernel
theorem dc_Mo_place_165 : decode M_Mo_place.2.1 165 = .ok (.istore 7, 2) := by decide +kernel
theorem dc_Mo_place_167 : decode M_Mo_place.2.1 167 = .ok (.iload 7, 2) := by decide +kernel
theorem dc_Mo_place_169 : decode M_Mo_place.2.1 169 = .ok (.iload 6, 2) := by decide +kernel
theorem dc_Mo_place_171 : decode M_Mo_place.2.1 171 = .ok (.if_icmp .ge 29, 3) := by decide +kernel
theorem dc_Mo_place_200 : decode M_Mo_place.2.1 200 = .ok (.iconst 0, 1) := by decide +kernel
theorem dc_Mo_place_201 : decode M_Mo_place.2.1 201 = .ok (.istore 7, 2) := by decide +kernel
theorem dc_Mo_place_174 : decode M_Mo_place.2.1 174 = .ok (.aload_n 0, 1) := by decide +kernel
theorem dc_Mo_place_175 : decode M_Mo_place.2.1 175 = .ok (.getfield 85, 3) := by decide +kernel
theorem dc_Mo_place_178 : decode M_Mo_place.2.1 178 = .ok (.bipush 30, 2) := by decide +kernel
theorem dc_Mo_place_180 : decode M_Mo_place.2.1 180 = .ok (.iload 5, 2) := by decide +kernel
theorem dc_Mo_place_182 : decode M_Mo_place.2.1 182 = .ok (.imul, 1) := by decide +kernel
theorem dc_Mo_place_183 : decode M_Mo_place.2.1 183 = .ok (.iload 7, 2) := by decide +kernel
theorem dc_Mo_place_185 : decode M_Mo_place.2.1 185 = .ok (.iadd, 1) := by decide +kernel
theorem dc_Mo_place_186 : decode M_Mo_place.2.1 186 = .ok (.aload_n 0, 1) := by decide +kernel
theorem dc_Mo_place_187 : decode M_Mo_place.2.1 187 = .ok (.getfield 95, 3) := by decide +kernel
theorem dc_Mo_place_190 : decode M_Mo_place.2.1 190 = .ok (.iload 7, 2) := by decide +kernel
theorem dc_Mo_place_192 : decode M_Mo_place.2.1 192 = .ok (.iaload, 1) := by decide +kernel
theorem dc_Mo_place_193 : decode M_Mo_place.2.1 193 = .ok (.iastore, 1) := by decide +kernel
theorem dc_Mo_place_194 : decode M_Mo_place.2.1 194 = .ok (.iinc 7 1, 3) := by decide +kernel
theorem dc_Mo_place_197 : decode M_Mo_place.2.1 197 = .ok (.goto (-30), 3) := by decide +kernel
theorem dc_Mo_place_203 : decode M_Mo_place.2.1 203 = .ok (.iload 7, 2) := by decide +kernel
theorem dc_Mo_place_205 : decode M_Mo_place.2.1 205 = .ok (.bipush 8, 2) := by decide +kernel
theorem dc_Mo_place_207 : decode M_Mo_place.2.1 207 = .ok (.if_icmp .ge 34, 3) := by decide +kernel
theorem dc_Mo_place_241 : decode M_Mo_place.2.1 241 = .ok (.aload_n 0, 1) := by decide +kernel
theorem dc_Mo_place_242 : decode M_Mo_place.2.1 242 = .ok (.getfield 88, 3) := by decide +kernel
theorem dc_Mo_place_245 : decode M_Mo_place.2.1 245 = .ok (.iload 5, 2) := by decide +kernel
theorem dc_Mo_place_247 : decode M_Mo_place.2.1 247 = .ok (.iconst 0, 1) := by decide +kernel
theorem dc_Mo_place_248 : decode M_Mo_place.2.1 248 = .ok (.iastore, 1) := by decide +kernel
theorem dc_Mo_place_249 : decode M_Mo_place.2.1 249 = .ok (.aload_n 0, 1) := by decide +kernel
theorem dc_Mo_place_250 : decode M_Mo_place.2.1 250 = .ok (.getfield 78, 3) := by decide +kernel
theorem dc_Mo_place_253 : decode M_Mo_place.2.1 253 = .ok (.iload 5, 2) := by decide +kernel
theorem dc_Mo_place_255 : decode M_Mo_place.2.1 255 = .ok (.iload 4, 2) := by decide +kernel
theorem dc_Mo_place_257 : decode M_Mo_place.2.1 257 = .ok (.iastore, 1) := by decide +kernel
theorem dc_Mo_place_258 : decode M_Mo_place.2.1 258 = .ok (.aload_n 0, 1) := by decide +kernel
theorem dc_Mo_place_259 : decode M_Mo_place.2.1 259 = .ok (.getfield 81, 3) := by decide +kernel
theorem dc_Mo_place_262 : decode M_Mo_place.2.1 262 = .ok (.iload 5, 2) := by decide +kernel
theorem dc_Mo_place_264 : decode M_Mo_place.2.1 264 = .ok (.iconst 1, 1) := by decide +kernel
theorem dc_Mo_place_265 : decode M_Mo_place.2.1 265 = .ok (.bastore, 1) := by decide +kernel
theorem dc_Mo_place_266 : decode M_Mo_place.2.1 266 = .ok (.aload_n 0, 1) := by decide +kernel
theorem dc_Mo_place_267 : decode M_Mo_place.2.1 267 = .ok (.getfield 33, 3) := by decide +kernel
theorem dc_Mo_place_270 : decode M_Mo_place.2.1 270 = .ok (.bipush 10, 2) := by decide +kernel
theorem dc_Mo_place_272 : decode M_Mo_place.2.1 272 = .ok (.iload 4, 2) := by decide +kernel
theorem dc_Mo_place_274 : decode M_Mo_place.2.1 274 = .ok (.imul, 1) := by decide +kernel
theorem dc_Mo_place_275 : decode M_Mo_place.2.1 275 = .ok (.iload_n 1, 1) := by decide +kernel
theorem dc_Mo_place_276 : decode M_Mo_place.2.1 276 = .ok (.iadd, 1) := by decide +kernel
theorem dc_Mo_place_277 : decode M_Mo_place.2.1 277 = .ok (.dup2, 1) := by decide +kernel
theorem dc_Mo_place_278 : decode M_Mo_place.2.1 278 = .ok (.iaload, 1) := by decide +kernel
theorem dc_Mo_place_279 : decode M_Mo_place.2.1 279 = .ok (.iconst 1, 1) := by decide +kernel
theorem dc_Mo_place_280 : decode M_Mo_place.2.1 280 = .ok (.iadd, 1) := by decide +kernel
theorem dc_Mo_place_281 : decode M_Mo_place.2.1 281 = .ok (.iastore, 1) := by decide +kernel
theorem dc_Mo_place_282 : decode M_Mo_place.2.1 282 = .ok (.aload_n 0, 1) := by decide +kernel
theorem dc_Mo_place_283 : decode M_Mo_place.2.1 283 = .ok (.getfield 27, 3) := by decide +kernel
theorem dc_Mo_place_286 : decode M_Mo_place.2.1 286 = .ok (.iload_n 1, 1) := by decide +kernel
theorem dc_Mo_place_287 : decode M_Mo_place.2.1 287 = .ok (.iconst 1, 1) := by decide +kernel
theorem dc_Mo_place_288 : decode M_Mo_place.2.1 288 = .ok (.bastore, 1) := by decide +kernel
theorem dc_Mo_place_289 : decode M_Mo_place.2.1 289 = .ok (.iconst 1, 1) := by decide +kernel
theorem dc_Mo_place_290 : decode M_Mo_place.2.1 290 = .ok (.ireturn, 1) := by decide +kernel
theorem dc_Mo_place_210 : decode M_Mo_place.2.1 210 = .ok (.aload_n 0, 1) := by decide +kernel
theorem dc_Mo_place_211 : decode M_Mo_place.2.1 211 = .ok (.getfield 92, 3) := by decide +kernel
theorem dc_Mo_place_214 : decode M_Mo_place.2.1 214 = .ok (.bipush 8, 2) := by decide +kernel
theorem dc_Mo_place_216 : decode M_Mo_place.2.1 216 = .ok (.iload 5, 2) := by decide +kernel
theorem dc_Mo_place_218 : decode M_Mo_place.2.1 218 = .ok (.imul, 1) := by decide +kernel
theorem dc_Mo_place_219 : decode M_Mo_place.2.1 219 = .ok (.iload 7, 2) := by decide +kernel
theorem dc_Mo_place_221 : decode M_Mo_place.2.1 221 = .ok (.iadd, 1) := by decide +kernel
theorem dc_Mo_place_222 : decode M_Mo_place.2.1 222 = .ok (.aload_n 0, 1) := by decide +kernel
theorem dc_Mo_place_223 : decode M_Mo_place.2.1 223 = .ok (.getfield 95, 3) := by decide +kernel
theorem dc_Mo_place_226 : decode M_Mo_place.2.1 226 = .ok (.iconst 0, 1) := by decide +kernel
theorem dc_Mo_place_227 : decode M_Mo_place.2.1 227 = .ok (.iload 6, 2) := by decide +kernel
theorem dc_Mo_place_229 : decode M_Mo_place.2.1 229 = .ok (.iload 7, 2) := by decide +kernel
theorem dc_Mo_place_231 : decode M_Mo_place.2.1 231 = .ok (.invokestatic 199, 3) := by decide +kernel
theorem km_9_199 : rM 9 199 = some (0, M_Mo_answer) := rM_at (j := 157) (p := 1190) (by decide +kernel) rfl
theorem np_Mo_answer : nP M_Mo_answer = 4 := by decide +kernel
theorem dc_Mo_place_234 : decode M_Mo_place.2.1 234 = .ok (.iastore, 1) := by decide +kernel
theorem dc_Mo_place_235 : decode M_Mo_place.2.1 235 = .ok (.iinc 7 1, 3) := by decide +kernel
theorem dc_Mo_place_238 : decode M_Mo_place.2.1 238 = .ok (.goto (-35), 3) := by decide +kernel
theorem dc_Mo_hasOf_0 : decode M_Mo_hasOf.2.1 0 = .ok (.iconst 0, 1) := by decide +kernel
theorem dc_Mo_hasOf_1 : decode M_Mo_hasOf.2.1 1 = .ok (.istore_n 3, 1) := by decide +kernel
theorem dc_Mo_hasOf_2 : decode M_Mo_hasOf.2.1 2 = .ok (.iconst 0, 1) := by decide +kernel
theorem dc_Mo_hasOf_3 : decode M_Mo_hasOf.2.1 3 = .ok (.istore 4, 2) := by decide +kernel
theorem dc_Mo_hasOf_5 : decode M_Mo_hasOf.2.1 5 = .ok (.iload 4, 2) := by decide +kernel
theorem dc_Mo_hasOf_7 : decode M_Mo_hasOf.2.1 7 = .ok (.aload_n 0, 1) := by decide +kernel
theorem dc_Mo_hasOf_8 : decode M_Mo_hasOf.2.1 8 = .ok (.getfield 13, 3) := by decide +kernel
theorem dc_Mo_hasOf_11 : decode M_Mo_hasOf.2.1 11 = .ok (.if_icmp .ge 35, 3) := by decide +kernel
theorem dc_Mo_hasOf_46 : decode M_Mo_hasOf.2.1 46 = .ok (.iload_n 3, 1) := by decide +kernel
theorem dc_Mo_hasOf_47 : decode M_Mo_hasOf.2.1 47 = .ok (.ireturn, 1) := by decide +kernel
theorem dc_Mo_hasOf_14 : decode M_Mo_hasOf.2.1 14 = .ok (.iload_n 3, 1) := by decide +kernel
theorem dc_Mo_hasOf_15 : decode M_Mo_hasOf.2.1 15 = .ok (.ifCond .ne 19, 3) := by decide +kernel
theorem dc_Mo_hasOf_18 : decode M_Mo_hasOf.2.1 18 = .ok (.aload_n 0, 1) := by decide +kernel
theorem dc_Mo_hasOf_19 : decode M_Mo_hasOf.2.1 19 = .ok (.getfield 78, 3) := by decide +kernel
theorem dc_Mo_hasOf_22 : decode M_Mo_hasOf.2.1 22 = .ok (.bipush 12, 2) := by decide +kernel
theorem dc_Mo_hasOf_24 : decode M_Mo_hasOf.2.1 24 = .ok (.iload_n 2, 1) := by decide +kernel
theorem dc_Mo_hasOf_25 : decode M_Mo_hasOf.2.1 25 = .ok (.imul, 1) := by decide +kernel
theorem dc_Mo_hasOf_26 : decode M_Mo_hasOf.2.1 26 = .ok (.iload 4, 2) := by decide +kernel
theorem dc_Mo_hasOf_28 : decode M_Mo_hasOf.2.1 28 = .ok (.iadd, 1) := by decide +kernel
theorem dc_Mo_hasOf_29 : decode M_Mo_hasOf.2.1 29 = .ok (.iaload, 1) := by decide +kernel
theorem dc_Mo_hasOf_30 : decode M_Mo_hasOf.2.1 30 = .ok (.iload_n 1, 1) := by decide +kernel
theorem dc_Mo_hasOf_31 : decode M_Mo_hasOf.2.1 31 = .ok (.if_icmp .ne 7, 3) := by decide +kernel
theorem dc_Mo_hasOf_38 : decode M_Mo_hasOf.2.1 38 = .ok (.iconst 0, 1) := by decide +kernel
theorem dc_Mo_hasOf_34 : decode M_Mo_hasOf.2.1 34 = .ok (.iconst 1, 1) := by decide +kernel
theorem dc_Mo_hasOf_35 : decode M_Mo_hasOf.2.1 35 = .ok (.goto 4, 3) := by decide +kernel
theorem dc_Mo_hasOf_39 : decode M_Mo_hasOf.2.1 39 = .ok (.istore_n 3, 1) := by decide +kernel
theorem dc_Mo_hasOf_40 : decode M_Mo_hasOf.2.1 40 = .ok (.iinc 4 1, 3) := by decide +kernel
theorem dc_Mo_hasOf_43 : decode M_Mo_hasOf.2.1 43 = .ok (.goto (-38), 3) := by decide +kernel
theorem dc_Mo_keeps_0 : decode M_Mo_keeps.2.1 0 = .ok (.iconst 0, 1) := by decide +kernel
theorem dc_Mo_keeps_1 : decode M_Mo_keeps.2.1 1 = .ok (.istore_n 2, 1) := by decide +kernel
theorem dc_Mo_keeps_2 : decode M_Mo_keeps.2.1 2 = .ok (.iconst 0, 1) := by decide +kernel
theorem dc_Mo_keeps_3 : decode M_Mo_keeps.2.1 3 = .ok (.istore_n 3, 1) := by decide +kernel
theorem dc_Mo_keeps_4 : decode M_Mo_keeps.2.1 4 = .ok (.iload_n 3, 1) := by decide +kernel
theorem dc_Mo_keeps_5 : decode M_Mo_keeps.2.1 5 = .ok (.bipush 10, 2) := by decide +kernel
theorem dc_Mo_keeps_7 : decode M_Mo_keeps.2.1 7 = .ok (.if_icmp .ge 23, 3) := by decide +kernel
theorem dc_Mo_keeps_30 : decode M_Mo_keeps.2.1 30 = .ok (.iload_n 2, 1) := by decide +kernel
theorem dc_Mo_keeps_31 : decode M_Mo_keeps.2.1 31 = .ok (.ireturn, 1) := by decide +kernel
theorem dc_Mo_keeps_10 : decode M_Mo_keeps.2.1 10 = .ok (.iload_n 2, 1) := by decide +kernel
theorem dc_Mo_keeps_11 : decode M_Mo_keeps.2.1 11 = .ok (.aload_n 0, 1) := by decide +kernel
theorem dc_Mo_keeps_12 : decode M_Mo_keeps.2.1 12 = .ok (.getfield 33, 3) := by decide +kernel
theorem dc_Mo_keeps_15 : decode M_Mo_keeps.2.1 15 = .ok (.bipush 10, 2) := by decide +kernel
theorem dc_Mo_keeps_17 : decode M_Mo_keeps.2.1 17 = .ok (.iload_n 1, 1) := by decide +kernel
theorem dc_Mo_keeps_18 : decode M_Mo_keeps.2.1 18 = .ok (.imul, 1) := by decide +kernel
theorem dc_Mo_keeps_19 : decode M_Mo_keeps.2.1 19 = .ok (.iload_n 3, 1) := by decide +kernel
theorem dc_Mo_keeps_20 : decode M_Mo_keeps.2.1 20 = .ok (.iadd, 1) := by decide +kernel
theorem dc_Mo_keeps_21 : decode M_Mo_keeps.2.1 21 = .ok (.iaload, 1) := by decide +kernel
theorem dc_Mo_keeps_22 : decode M_Mo_keeps.2.1 22 = .ok (.iadd, 1) := by decide +kernel
theorem dc_Mo_keeps_23 : decode M_Mo_keeps.2.1 23 = .ok (.istore_n 2, 1) := by decide +kernel
theorem dc_Mo_keeps_24 : decode M_Mo_keeps.2.1 24 = .ok (.iinc 3 1, 3) := by decide +kernel
theorem dc_Mo_keeps_27 : decode M_Mo_keeps.2.1 27 = .ok (.goto (-23), 3) := by decide +kernel
theorem dc_Mo_length_0 : decode M_Mo_length.2.1 0 = .ok (.bipush 60, 2) := by decide +kernel
theorem dc_Mo_length_2 : decode M_Mo_length.2.1 2 = .ok (.aload_n 0, 1) := by decide +kernel
theorem dc_Mo_length_3 : decode M_Mo_length.2.1 3 = .ok (.getfield 7, 3) := by decide +kernel
theorem dc_Mo_length_6 : decode M_Mo_length.2.1 6 = .ok (.idiv, 1) := by decide +kernel
theorem dc_Mo_length_7 : decode M_Mo_length.2.1 7 = .ok (.ireturn, 1) := by decide +kernel
theorem dc_Mo_makePiece_0 : decode M_Mo_makePiece.2.1 0 = .ok (.aload_n 0, 1) := by decide +kernel
theorem dc_Mo_makePiece_1 : decode M_Mo_makePiece.2.1 1 = .ok (.invokevirtual 166, 3) := by decide +kernel
theorem dc_Mo_makePiece_4 : decode M_Mo_makePiece.2.1 4 = .ok (.istore 4, 2) := by decide +kernel
theorem dc_Mo_makePiece_6 : decode M_Mo_makePiece.2.1 6 = .ok (.iconst 0, 1) := by decide +kernel
theorem dc_Mo_makePiece_7 : decode M_Mo_makePiece.2.1 7 = .ok (.istore 5, 2) := by decide +kernel
theorem dc_Mo_makePiece_9 : decode M_Mo_makePiece.2.1 9 = .ok (.iload 5, 2) := by decide +kernel
theorem dc_Mo_makePiece_11 : decode M_Mo_makePiece.2.1 11 = .ok (.iload 4, 2) := by decide +kernel
theorem dc_Mo_makePiece_13 : decode M_Mo_makePiece.2.1 13 = .ok (.if_icmp .ge 17, 3) := by decide +kernel
theorem dc_Mo_makePiece_30 : decode M_Mo_makePiece.2.1 30 = .ok (.iconst 0, 1) := by decide +kernel
theorem dc_Mo_makePiece_31 : decode M_Mo_makePiece.2.1 31 = .ok (.istore 5, 2) := by decide +kernel
theorem dc_Mo_makePiece_16 : decode M_Mo_makePiece.2.1 16 = .ok (.aload_n 0, 1) := by decide +kernel
theorem dc_Mo_makePiece_17 : decode M_Mo_makePiece.2.1 17 = .ok (.getfield 95, 3) := by decide +kernel
theorem dc_Mo_makePiece_20 : decode M_Mo_makePiece.2.1 20 = .ok (.iload 5, 2) := by decide +kernel
theorem dc_Mo_makePiece_22 : decode M_Mo_makePiece.2.1 22 = .ok (.iconst 0, 1) := by decide +kernel
theorem dc_Mo_makePiece_23 : decode M_Mo_makePiece.2.1 23 = .ok (.iastore, 1) := by decide +kernel
theorem dc_Mo_makePiece_24 : decode M_Mo_makePiece.2.1 24 = .ok (.iinc 5 1, 3) := by decide +kernel
theorem dc_Mo_makePiece_27 : decode M_Mo_makePiece.2.1 27 = .ok (.goto (-18), 3) := by decide +kernel
theorem dc_Mo_makePiece_33 : decode M_Mo_makePiece.2.1 33 = .ok (.iload 5, 2) := by decide +kernel
theorem dc_Mo_makePiece_35 : decode M_Mo_makePiece.2.1 35 = .ok (.aload_n 0, 1) := by decide +kernel
theorem dc_Mo_makePiece_36 : decode M_Mo_makePiece.2.1 36 = .ok (.getfield 7, 3) := by decide +kernel
theorem dc_Mo_makePiece_39 : decode M_Mo_makePiece.2.1 39 = .ok (.if_icmp .ge 68, 3) := by decide +kernel
theorem dc_Mo_makePiece_107 : decode M_Mo_makePiece.2.1 107 = .ok (.return_, 1) := by decide +kernel
theorem dc_Mo_makePiece_42 : decode M_Mo_makePiece.2.1 42 = .ok (.iload_n 3, 1) := by decide +kernel
theorem dc_Mo_makePiece_43 : decode M_Mo_makePiece.2.1 43 = .ok (.iload 5, 2) := by decide +kernel
theorem dc_Mo_makePiece_45 : decode M_Mo_makePiece.2.1 45 = .ok (.invokestatic 170, 3) := by decide +kernel
theorem km_9_170 : rM 9 170 = some (0, M_Mo_coefficient) := rM_at (j := 154) (p := 1181) (by decide +kernel) rfl
theorem np_Mo_coefficient : nP M_Mo_coefficient = 2 := by decide +kernel
theorem dc_Mo_makePiece_48 : decode M_Mo_makePiece.2.1 48 = .ok (.istore 6, 2) := by decide +kernel
theorem dc_Mo_makePiece_50 : decode M_Mo_makePiece.2.1 50 = .ok (.iconst 0, 1) := by decide +kernel
theorem dc_Mo_makePiece_51 : decode M_Mo_makePiece.2.1 51 = .ok (.istore 7, 2) := by decide +kernel
theorem dc_Mo_makePiece_53 : decode M_Mo_makePiece.2.1 53 = .ok (.iload 7, 2) := by decide +kernel
theorem dc_Mo_makePiece_55 : decode M_Mo_makePiece.2.1 55 = .ok (.iload 4, 2) := by decide +kernel
theorem dc_Mo_makePiece_57 : decode M_Mo_makePiece.2.1 57 = .ok (.if_icmp .ge 44, 3) := by decide +kernel
theorem dc_Mo_makePiece_101 : decode M_Mo_makePiece.2.1 101 = .ok (.iinc 5 1, 3) := by decide +kernel
theorem dc_Mo_makePiece_104 : decode M_Mo_makePiece.2.1 104 = .ok (.goto (-71), 3) := by decide +kernel
theorem dc_Mo_makePiece_60 : decode M_Mo_makePiece.2.1 60 = .ok (.aload_n 0, 1) := by decide +kernel
theorem dc_Mo_makePiece_61 : decode M_Mo_makePiece.2.1 61 = .ok (.getfield 95, 3) := by decide +kernel
theorem dc_Mo_makePiece_64 : decode M_Mo_makePiece.2.1 64 = .ok (.iload 7, 2) := by decide +kernel
theorem dc_Mo_makePiece_66 : decode M_Mo_makePiece.2.1 66 = .ok (.aload_n 0, 1) := by decide +kernel
theorem dc_Mo_makePiece_67 : decode M_Mo_makePiece.2.1 67 = .ok (.getfield 95, 3) := by decide +kernel
theorem dc_Mo_makePiece_70 : decode M_Mo_makePiece.2.1 70 = .ok (.iload 7, 2) := by decide +kernel
theorem dc_Mo_makePiece_72 : decode M_Mo_makePiece.2.1 72 = .ok (.iaload, 1) := by decide +kernel
theorem dc_Mo_makePiece_73 : decode M_Mo_makePiece.2.1 73 = .ok (.iload 6, 2) := by decide +kernel
theorem dc_Mo_makePiece_75 : decode M_Mo_makePiece.2.1 75 = .ok (.aload_n 1, 1) := by decide +kernel
theorem dc_Mo_makePiece_76 : decode M_Mo_makePiece.2.1 76 = .ok (.bipush 60, 2) := by decide +kernel
theorem dc_Mo_makePiece_78 : decode M_Mo_makePiece.2.1 78 = .ok (.iload_n 2, 1) := by decide +kernel
theorem dc_Mo_makePiece_79 : decode M_Mo_makePiece.2.1 79 = .ok (.imul, 1) := by decide +kernel
theorem dc_Mo_makePiece_80 : decode M_Mo_makePiece.2.1 80 = .ok (.iload 5, 2) := by decide +kernel
theorem dc_Mo_makePiece_82 : decode M_Mo_makePiece.2.1 82 = .ok (.iload 4, 2) := by decide +kernel
theorem dc_Mo_makePiece_84 : decode M_Mo_makePiece.2.1 84 = .ok (.imul, 1) := by decide +kernel
theorem dc_Mo_makePiece_85 : decode M_Mo_makePiece.2.1 85 = .ok (.iadd, 1) := by decide +kernel
theorem dc_Mo_makePiece_86 : decode M_Mo_makePiece.2.1 86 = .ok (.iload 7, 2) := by decide +kernel
theorem dc_Mo_makePiece_88 : decode M_Mo_makePiece.2.1 88 = .ok (.iadd, 1) := by decide +kernel
theorem dc_Mo_makePiece_89 : decode M_Mo_makePiece.2.1 89 = .ok (.iaload, 1) := by decide +kernel
theorem dc_Mo_makePiece_90 : decode M_Mo_makePiece.2.1 90 = .ok (.invokestatic 160, 3) := by decide +kernel
theorem km_9_160 : rM 9 160 = some (0, M_Mo_product) := rM_at (j := 156) (p := 1187) (by decide +kernel) rfl
theorem np_Mo_product : nP M_Mo_product = 2 := by decide +kernel
theorem dc_Mo_makePiece_93 : decode M_Mo_makePiece.2.1 93 = .ok (.ixor, 1) := by decide +kernel
theorem dc_Mo_makePiece_94 : decode M_Mo_makePiece.2.1 94 = .ok (.iastore, 1) := by decide +kernel
theorem dc_Mo_makePiece_95 : decode M_Mo_makePiece.2.1 95 = .ok (.iinc 7 1, 3) := by decide +kernel
theorem dc_Mo_makePiece_98 : decode M_Mo_makePiece.2.1 98 = .ok (.goto (-45), 3) := by decide +kernel
theorem dc_Mo_coefficient_0 : decode M_Mo_coefficient.2.1 0 = .ok (.bipush 16, 2) := by decide +kernel
theorem dc_Mo_coefficient_2 : decode M_Mo_coefficient.2.1 2 = .ok (.iload_n 0, 1) := by decide +kernel
theorem dc_Mo_coefficient_3 : decode M_Mo_coefficient.2.1 3 = .ok (.iadd, 1) := by decide +kernel
theorem dc_Mo_coefficient_4 : decode M_Mo_coefficient.2.1 4 = .ok (.iload_n 1, 1) := by decide +kernel
theorem dc_Mo_coefficient_5 : decode M_Mo_coefficient.2.1 5 = .ok (.ixor, 1) := by decide +kernel
theorem dc_Mo_coefficient_6 : decode M_Mo_coefficient.2.1 6 = .ok (.invokestatic 163, 3) := by decide +kernel
theorem km_9_163 : rM 9 163 = some (0, M_Mo_inverse) := rM_at (j := 155) (p := 1184) (by decide +kernel) rfl
theorem np_Mo_inverse : nP M_Mo_inverse = 1 := by decide +kernel
theorem dc_Mo_coefficient_9 : decode M_Mo_coefficient.2.1 9 = .ok (.ireturn, 1) := by decide +kernel
theorem dc_Mo_inverse_0 : decode M_Mo_inverse.2.1 0 = .ok (.iconst 1, 1) := by decide +kernel
theorem dc_Mo_inverse_1 : decode M_Mo_inverse.2.1 1 = .ok (.istore_n 1, 1) := by decide +kernel
theorem dc_Mo_inverse_2 : decode M_Mo_inverse.2.1 2 = .ok (.iload_n 0, 1) := by decide +kernel
theorem dc_Mo_inverse_3 : decode M_Mo_inverse.2.1 3 = .ok (.iload_n 1, 1) := by decide +kernel
theorem dc_Mo_inverse_4 : decode M_Mo_inverse.2.1 4 = .ok (.invokestatic 160, 3) := by decide +kernel
theorem dc_Mo_inverse_7 : decode M_Mo_inverse.2.1 7 = .ok (.iconst 1, 1) := by decide +kernel
theorem dc_Mo_inverse_8 : decode M_Mo_inverse.2.1 8 = .ok (.if_icmp .eq 9, 3) := by decide +kernel
theorem dc_Mo_inverse_17 : decode M_Mo_inverse.2.1 17 = .ok (.iload_n 1, 1) := by decide +kernel
theorem dc_Mo_inverse_18 : decode M_Mo_inverse.2.1 18 = .ok (.ireturn, 1) := by decide +kernel
theorem dc_Mo_inverse_11 : decode M_Mo_inverse.2.1 11 = .ok (.iinc 1 1, 3) := by decide +kernel
theorem dc_Mo_inverse_14 : decode M_Mo_inverse.2.1 14 = .ok (.goto (-12), 3) := by decide +kernel
theorem dc_Mo_product_0 : decode M_Mo_product.2.1 0 = .ok (.iconst 0, 1) := by decide +kernel
theorem dc_Mo_product_1 : decode M_Mo_product.2.1 1 = .ok (.istore_n 2, 1) := by decide +kernel
theorem dc_Mo_product_2 : decode M_Mo_product.2.1 2 = .ok (.bipush 7, 2) := by decide +kernel
theorem dc_Mo_product_4 : decode M_Mo_product.2.1 4 = .ok (.istore_n 3, 1) := by decide +kernel
theorem dc_Mo_product_5 : decode M_Mo_product.2.1 5 = .ok (.iload_n 3, 1) := by decide +kernel
theorem dc_Mo_product_6 : decode M_Mo_product.2.1 6 = .ok (.ifCond .lt 47, 3) := by decide +kernel
theorem dc_Mo_product_53 : decode M_Mo_product.2.1 53 = .ok (.iload_n 2, 1) := by decide +kernel
theorem dc_Mo_product_54 : decode M_Mo_product.2.1 54 = .ok (.ireturn, 1) := by decide +kernel
theorem dc_Mo_product_9 : decode M_Mo_product.2.1 9 = .ok (.iload_n 2, 1) := by decide +kernel
theorem dc_Mo_product_10 : decode M_Mo_product.2.1 10 = .ok (.iconst 1, 1) := by decide +kernel
theorem dc_Mo_product_11 : decode M_Mo_product.2.1 11 = .ok (.ishl, 1) := by decide +kernel
theorem dc_Mo_product_12 : decode M_Mo_product.2.1 12 = .ok (.istore_n 2, 1) := by decide +kernel
theorem dc_Mo_product_13 : decode M_Mo_product.2.1 13 = .ok (.iload_n 2, 1) := by decide +kernel
theorem dc_Mo_product_14 : decode M_Mo_product.2.1 14 = .ok (.sipush 255, 3) := by decide +kernel
theorem dc_Mo_product_17 : decode M_Mo_product.2.1 17 = .ok (.if_icmp .le 11, 3) := by decide +kernel
theorem dc_Mo_product_28 : decode M_Mo_product.2.1 28 = .ok (.iload_n 2, 1) := by decide +kernel
theorem dc_Mo_product_20 : decode M_Mo_product.2.1 20 = .ok (.iload_n 2, 1) := by decide +kernel
theorem dc_Mo_product_21 : decode M_Mo_product.2.1 21 = .ok (.sipush 285, 3) := by decide +kernel
theorem dc_Mo_product_24 : decode M_Mo_product.2.1 24 = .ok (.ixor, 1) := by decide +kernel
theorem dc_Mo_product_25 : decode M_Mo_product.2.1 25 = .ok (.goto 4, 3) := by decide +kernel
theorem dc_Mo_product_29 : decode M_Mo_product.2.1 29 = .ok (.istore_n 2, 1) := by decide +kernel
theorem dc_Mo_product_30 : decode M_Mo_product.2.1 30 = .ok (.iload_n 1, 1) := by decide +kernel
theorem dc_Mo_product_31 : decode M_Mo_product.2.1 31 = .ok (.iload_n 3, 1) := by decide +kernel
theorem dc_Mo_product_32 : decode M_Mo_product.2.1 32 = .ok (.ishr, 1) := by decide +kernel
theorem dc_Mo_product_33 : decode M_Mo_product.2.1 33 = .ok (.iconst 1, 1) := by decide +kernel
theorem dc_Mo_product_34 : decode M_Mo_product.2.1 34 = .ok (.iand, 1) := by decide +kernel
theorem dc_Mo_product_35 : decode M_Mo_product.2.1 35 = .ok (.iconst 1, 1) := by decide +kernel
theorem dc_Mo_product_36 : decode M_Mo_product.2.1 36 = .ok (.if_icmp .ne 9, 3) := by decide +kernel
theorem dc_Mo_product_45 : decode M_Mo_product.2.1 45 = .ok (.iload_n 2, 1) := by decide +kernel
theorem dc_Mo_product_39 : decode M_Mo_product.2.1 39 = .ok (.iload_n 2, 1) := by decide +kernel
theorem dc_Mo_product_40 : decode M_Mo_product.2.1 40 = .ok (.iload_n 0, 1) := by decide +kernel
theorem dc_Mo_product_41 : decode M_Mo_product.2.1 41 = .ok (.ixor, 1) := by decide +kernel
theorem dc_Mo_product_42 : decode M_Mo_product.2.1 42 = .ok (.goto 4, 3) := by decide +kernel
theorem dc_Mo_product_46 : decode M_Mo_product.2.1 46 = .ok (.istore_n 2, 1) := by decide +kernel
theorem dc_Mo_product_47 : decode M_Mo_product.2.1 47 = .ok (.iinc 3 (-1), 3) := by decide +kernel
theorem dc_Mo_product_50 : decode M_Mo_product.2.1 50 = .ok (.goto (-45), 3) := by decide +kernel
theorem dc_Mo_answer_0 : decode M_Mo_answer.2.1 0 = .ok (.lconst 0, 1) := by decide +kernel
theorem dc_Mo_answer_1 : decode M_Mo_answer.2.1 1 = .ok (.lstore 4, 2) := by decide +kernel
theorem dc_Mo_answer_3 : decode M_Mo_answer.2.1 3 = .ok (.iconst 0, 1) := by decide +kernel
theorem dc_Mo_answer_4 : decode M_Mo_answer.2.1 4 = .ok (.istore 6, 2) := by decide +kernel
theorem dc_Mo_answer_6 : decode M_Mo_answer.2.1 6 = .ok (.iload 6, 2) := by decide +kernel
theorem dc_Mo_answer_8 : decode M_Mo_answer.2.1 8 = .ok (.iload_n 2, 1) := by decide +kernel
theorem dc_Mo_answer_9 : decode M_Mo_answer.2.1 9 = .ok (.iconst 2, 1) := by decide +kernel
theorem dc_Mo_answer_10 : decode M_Mo_answer.2.1 10 = .ok (.idiv, 1) := by decide +kernel
theorem dc_Mo_answer_11 : decode M_Mo_answer.2.1 11 = .ok (.if_icmp .ge 42, 3) := by decide +kernel
theorem dc_Mo_answer_53 : decode M_Mo_answer.2.1 53 = .ok (.lload 4, 2) := by decide +kernel
theorem dc_Mo_answer_55 : decode M_Mo_answer.2.1 55 = .ok (.ldc2_w 187, 3) := by decide +kernel
theorem dc_Mo_answer_58 : decode M_Mo_answer.2.1 58 = .ok (.lrem, 1) := by decide +kernel
theorem dc_Mo_answer_59 : decode M_Mo_answer.2.1 59 = .ok (.l2i, 1) := by decide +kernel
theorem dc_Mo_answer_60 : decode M_Mo_answer.2.1 60 = .ok (.ireturn, 1) := by decide +kernel
theorem dc_Mo_answer_14 : decode M_Mo_answer.2.1 14 = .ok (.lload 4, 2) := by decide +kernel
theorem dc_Mo_answer_16 : decode M_Mo_answer.2.1 16 = .ok (.iload 6, 2) := by decide +kernel
theorem dc_Mo_answer_18 : decode M_Mo_answer.2.1 18 = .ok (.i2l, 1) := by decide +kernel
theorem dc_Mo_answer_19 : decode M_Mo_answer.2.1 19 = .ok (.lconst 1, 1) := by decide +kernel
theorem dc_Mo_answer_20 : decode M_Mo_answer.2.1 20 = .ok (.ladd, 1) := by decide +kernel
theorem dc_Mo_answer_21 : decode M_Mo_answer.2.1 21 = .ok (.aload_n 0, 1) := by decide +kernel
theorem dc_Mo_answer_22 : decode M_Mo_answer.2.1 22 = .ok (.iload_n 1, 1) := by decide +kernel
theorem dc_Mo_answer_23 : decode M_Mo_answer.2.1 23 = .ok (.bipush 7, 2) := by decide +kernel
theorem dc_Mo_answer_25 : decode M_Mo_answer.2.1 25 = .ok (.iload_n 3, 1) := by decide +kernel
theorem dc_Mo_answer_26 : decode M_Mo_answer.2.1 26 = .ok (.imul, 1) := by decide +kernel
theorem dc_Mo_answer_27 : decode M_Mo_answer.2.1 27 = .ok (.iload 6, 2) := by decide +kernel
theorem dc_Mo_answer_29 : decode M_Mo_answer.2.1 29 = .ok (.iconst 1, 1) := by decide +kernel
theorem dc_Mo_answer_30 : decode M_Mo_answer.2.1 30 = .ok (.iload_n 3, 1) := by decide +kernel
theorem dc_Mo_answer_31 : decode M_Mo_answer.2.1 31 = .ok (.iload_n 2, 1) := by decide +kernel
theorem dc_Mo_answer_32 : decode M_Mo_answer.2.1 32 = .ok (.iconst 1, 1) := by decide +kernel
theorem dc_Mo_answer_33 : decode M_Mo_answer.2.1 33 = .ok (.isub, 1) := by decide +kernel
theorem dc_Mo_answer_34 : decode M_Mo_answer.2.1 34 = .ok (.irem, 1) := by decide +kernel
theorem dc_Mo_answer_35 : decode M_Mo_answer.2.1 35 = .ok (.iadd, 1) := by decide +kernel
theorem dc_Mo_answer_36 : decode M_Mo_answer.2.1 36 = .ok (.imul, 1) := by decide +kernel
theorem dc_Mo_answer_37 : decode M_Mo_answer.2.1 37 = .ok (.iadd, 1) := by decide +kernel
theorem dc_Mo_answer_38 : decode M_Mo_answer.2.1 38 = .ok (.iload_n 2, 1) := by decide +kernel
theorem dc_Mo_answer_39 : decode M_Mo_answer.2.1 39 = .ok (.irem, 1) := by decide +kernel
theorem dc_Mo_answer_40 : decode M_Mo_answer.2.1 40 = .ok (.iadd, 1) := by decide +kernel
theorem dc_Mo_answer_41 : decode M_Mo_answer.2.1 41 = .ok (.iaload, 1) := by decide +kernel
theorem dc_Mo_answer_42 : decode M_Mo_answer.2.1 42 = .ok (.i2l, 1) := by decide +kernel
theorem dc_Mo_answer_43 : decode M_Mo_answer.2.1 43 = .ok (.lmul, 1) := by decide +kernel
theorem dc_Mo_answer_44 : decode M_Mo_answer.2.1 44 = .ok (.ladd, 1) := by decide +kernel
theorem dc_Mo_answer_45 : decode M_Mo_answer.2.1 45 = .ok (.lstore 4, 2) := by decide +kernel
theorem dc_Mo_answer_47 : decode M_Mo_answer.2.1 47 = .ok (.iinc 6 1, 3) := by decide +kernel
theorem dc_Mo_answer_50 : decode M_Mo_answer.2.1 50 = .ok (.goto (-44), 3) := by decide +kernel
theorem dc_Mo_loseDisk_0 : decode M_Mo_loseDisk.2.1 0 = .ok (.aload_n 0, 1) := by decide +kernel
theorem dc_Mo_loseDisk_1 : decode M_Mo_loseDisk.2.1 1 = .ok (.aload_n 0, 1) := by decide +kernel
theorem dc_Mo_loseDisk_2 : decode M_Mo_loseDisk.2.1 2 = .ok (.iload_n 1, 1) := by decide +kernel
theorem dc_Mo_loseDisk_3 : decode M_Mo_loseDisk.2.1 3 = .ok (.invokevirtual 120, 3) := by decide +kernel
theorem dc_Mo_loseDisk_6 : decode M_Mo_loseDisk.2.1 6 = .ok (.ifCond .eq 7, 3) := by decide +kernel
theorem dc_Mo_loseDisk_13 : decode M_Mo_loseDisk.2.1 13 = .ok (.iconst 1, 1) := by decide +kernel
theorem dc_Mo_loseDisk_9 : decode M_Mo_loseDisk.2.1 9 = .ok (.iconst 0, 1) := by decide +kernel
theorem dc_Mo_loseDisk_10 : decode M_Mo_loseDisk.2.1 10 = .ok (.goto 4, 3) := by decide +kernel
theorem dc_Mo_loseDisk_14 : decode M_Mo_loseDisk.2.1 14 = .ok (.invokevirtual 132, 3) := by decide +kernel
theorem dc_Mo_loseDisk_17 : decode M_Mo_loseDisk.2.1 17 = .ok (.ifCond .eq 4, 3) := by decide +kernel
theorem dc_Mo_loseDisk_21 : decode M_Mo_loseDisk.2.1 21 = .ok (.iconst 0, 1) := by decide +kernel
theorem dc_Mo_loseDisk_22 : decode M_Mo_loseDisk.2.1 22 = .ok (.istore_n 2, 1) := by decide +kernel
theorem dc_Mo_loseDisk_20 : decode M_Mo_loseDisk.2.1 20 = .ok (.return_, 1) := by decide +kernel
theorem dc_Mo_loseDisk_23 : decode M_Mo_loseDisk.2.1 23 = .ok (.iload_n 2, 1) := by decide +kernel
theorem dc_Mo_loseDisk_24 : decode M_Mo_loseDisk.2.1 24 = .ok (.sipush 4800, 3) := by decide +kernel
theorem dc_Mo_loseDisk_27 : decode M_Mo_loseDisk.2.1 27 = .ok (.if_icmp .ge 29, 3) := by decide +kernel
theorem dc_Mo_loseDisk_56 : decode M_Mo_loseDisk.2.1 56 = .ok (.iconst 0, 1) := by decide +kernel
theorem dc_Mo_loseDisk_57 : decode M_Mo_loseDisk.2.1 57 = .ok (.istore_n 2, 1) := by decide +kernel
theorem dc_Mo_loseDisk_30 : decode M_Mo_loseDisk.2.1 30 = .ok (.aload_n 0, 1) := by decide +kernel
theorem dc_Mo_loseDisk_31 : decode M_Mo_loseDisk.2.1 31 = .ok (.getfield 78, 3) := by decide +kernel
theorem dc_Mo_loseDisk_34 : decode M_Mo_loseDisk.2.1 34 = .ok (.iload_n 2, 1) := by decide +kernel
theorem dc_Mo_loseDisk_35 : decode M_Mo_loseDisk.2.1 35 = .ok (.iaload, 1) := by decide +kernel
theorem dc_Mo_loseDisk_36 : decode M_Mo_loseDisk.2.1 36 = .ok (.iload_n 1, 1) := by decide +kernel
theorem dc_Mo_loseDisk_37 : decode M_Mo_loseDisk.2.1 37 = .ok (.if_icmp .ne 13, 3) := by decide +kernel
theorem dc_Mo_loseDisk_40 : decode M_Mo_loseDisk.2.1 40 = .ok (.aload_n 0, 1) := by decide +kernel
theorem dc_Mo_loseDisk_41 : decode M_Mo_loseDisk.2.1 41 = .ok (.iload_n 2, 1) := by decide +kernel
theorem dc_Mo_loseDisk_42 : decode M_Mo_loseDisk.2.1 42 = .ok (.sipush 480, 3) := by decide +kernel
theorem k_sipush_480 : (Int16.ofInt 480).toInt32.toInt = 480 := by decide
theorem dc_Mo_loseDisk_45 : decode M_Mo_loseDisk.2.1 45 = .ok (.idiv, 1) := by decide +kernel
theorem dc_Mo_loseDisk_46 : decode M_Mo_loseDisk.2.1 46 = .ok (.iload_n 2, 1) := by decide +kernel
theorem dc_Mo_loseDisk_47 : decode M_Mo_loseDisk.2.1 47 = .ok (.invokevirtual 209, 3) := by decide +kernel
theorem km_9_209 : rM 9 209 = some (1, M_Mo_lose) := rM_at (j := 159) (p := 1198) (by decide +kernel) rfl
theorem np_Mo_lose : nP M_Mo_lose = 2 := by decide +kernel
theorem dc_Mo_loseDisk_50 : decode M_Mo_loseDisk.2.1 50 = .ok (.iinc 2 1, 3) := by decide +kernel
theorem dc_Mo_loseDisk_53 : decode M_Mo_loseDisk.2.1 53 = .ok (.goto (-30), 3) := by decide +kernel
theorem dc_Mo_loseDisk_58 : decode M_Mo_loseDisk.2.1 58 = .ok (.iload_n 2, 1) := by decide +kernel
theorem dc_Mo_loseDisk_59 : decode M_Mo_loseDisk.2.1 59 = .ok (.bipush 10, 2) := by decide +kernel
theorem dc_Mo_loseDisk_61 : decode M_Mo_loseDisk.2.1 61 = .ok (.if_icmp .ge 21, 3) := by decide +kernel
theorem dc_Mo_loseDisk_82 : decode M_Mo_loseDisk.2.1 82 = .ok (.bipush 40, 2) := by decide +kernel
theorem dc_Mo_loseDisk_84 : decode M_Mo_loseDisk.2.1 84 = .ok (.iload_n 1, 1) := by decide +kernel
theorem dc_Mo_loseDisk_85 : decode M_Mo_loseDisk.2.1 85 = .ok (.imul, 1) := by decide +kernel
theorem dc_Mo_loseDisk_86 : decode M_Mo_loseDisk.2.1 86 = .ok (.istore_n 2, 1) := by decide +kernel
theorem dc_Mo_loseDisk_64 : decode M_Mo_loseDisk.2.1 64 = .ok (.aload_n 0, 1) := by decide +kernel
theorem dc_Mo_loseDisk_65 : decode M_Mo_loseDisk.2.1 65 = .ok (.getfield 39, 3) := by decide +kernel
theorem dc_Mo_loseDisk_68 : decode M_Mo_loseDisk.2.1 68 = .ok (.bipush 10, 2) := by decide +kernel
theorem dc_Mo_loseDisk_70 : decode M_Mo_loseDisk.2.1 70 = .ok (.iload_n 1, 1) := by decide +kernel
theorem dc_Mo_loseDisk_71 : decode M_Mo_loseDisk.2.1 71 = .ok (.imul, 1) := by decide +kernel
theorem dc_Mo_loseDisk_72 : decode M_Mo_loseDisk.2.1 72 = .ok (.iload_n 2, 1) := by decide +kernel
theorem dc_Mo_loseDisk_73 : decode M_Mo_loseDisk.2.1 73 = .ok (.iadd, 1) := by decide +kernel
theorem dc_Mo_loseDisk_74 : decode M_Mo_loseDisk.2.1 74 = .ok (.iconst 0, 1) := by decide +kernel
theorem dc_Mo_loseDisk_75 : decode M_Mo_loseDisk.2.1 75 = .ok (.bastore, 1) := by decide +kernel
theorem dc_Mo_loseDisk_76 : decode M_Mo_loseDisk.2.1 76 = .ok (.iinc 2 1, 3) := by decide +kernel
theorem dc_Mo_loseDisk_79 : decode M_Mo_loseDisk.2.1 79 = .ok (.goto (-21), 3) := by decide +kernel
theorem dc_Mo_loseDisk_87 : decode M_Mo_loseDisk.2.1 87 = .ok (.iload_n 2, 1) := by decide +kernel
theorem dc_Mo_loseDisk_88 : decode M_Mo_loseDisk.2.1 88 = .ok (.bipush 40, 2) := by decide +kernel
theorem dc_Mo_loseDisk_90 : decode M_Mo_loseDisk.2.1 90 = .ok (.iload_n 1, 1) := by decide +kernel
theorem dc_Mo_loseDisk_91 : decode M_Mo_loseDisk.2.1 91 = .ok (.imul, 1) := by decide +kernel
theorem dc_Mo_loseDisk_92 : decode M_Mo_loseDisk.2.1 92 = .ok (.bipush 40, 2) := by decide +kernel
theorem dc_Mo_loseDisk_94 : decode M_Mo_loseDisk.2.1 94 = .ok (.iadd, 1) := by decide +kernel
theorem dc_Mo_loseDisk_95 : decode M_Mo_loseDisk.2.1 95 = .ok (.if_icmp .ge 16, 3) := by decide +kernel
theorem dc_Mo_loseDisk_111 : decode M_Mo_loseDisk.2.1 111 = .ok (.aload_n 0, 1) := by decide +kernel
theorem dc_Mo_loseDisk_112 : decode M_Mo_loseDisk.2.1 112 = .ok (.getfield 24, 3) := by decide +kernel
theorem dc_Mo_loseDisk_115 : decode M_Mo_loseDisk.2.1 115 = .ok (.iload_n 1, 1) := by decide +kernel
theorem dc_Mo_loseDisk_116 : decode M_Mo_loseDisk.2.1 116 = .ok (.iconst 1, 1) := by decide +kernel
theorem dc_Mo_loseDisk_117 : decode M_Mo_loseDisk.2.1 117 = .ok (.bastore, 1) := by decide +kernel
theorem dc_Mo_loseDisk_118 : decode M_Mo_loseDisk.2.1 118 = .ok (.return_, 1) := by decide +kernel
theorem dc_Mo_loseDisk_98 : decode M_Mo_loseDisk.2.1 98 = .ok (.aload_n 0, 1) := by decide +kernel
theorem dc_Mo_loseDisk_99 : decode M_Mo_loseDisk.2.1 99 = .ok (.getfield 69, 3) := by decide +kernel
theorem dc_Mo_loseDisk_102 : decode M_Mo_loseDisk.2.1 102 = .ok (.iload_n 2, 1) := by decide +kernel
theorem dc_Mo_loseDisk_103 : decode M_Mo_loseDisk.2.1 103 = .ok (.iconst 0, 1) := by decide +kernel
theorem dc_Mo_loseDisk_104 : decode M_Mo_loseDisk.2.1 104 = .ok (.bastore, 1) := by decide +kernel
theorem dc_Mo_loseDisk_105 : decode M_Mo_loseDisk.2.1 105 = .ok (.iinc 2 1, 3) := by decide +kernel
theorem dc_Mo_loseDisk_108 : decode M_Mo_loseDisk.2.1 108 = .ok (.goto (-21), 3) := by decide +kernel
theorem dc_Mo_lose_0 : decode M_Mo_lose.2.1 0 = .ok (.aload_n 0, 1) := by decide +kernel
theorem dc_Mo_lose_1 : decode M_Mo_lose.2.1 1 = .ok (.getfield 78, 3) := by decide +kernel
theorem dc_Mo_lose_4 : decode M_Mo_lose.2.1 4 = .ok (.iload_n 2, 1) := by decide +kernel
theorem dc_Mo_lose_5 : decode M_Mo_lose.2.1 5 = .ok (.iaload, 1) := by decide +kernel
theorem dc_Mo_lose_6 : decode M_Mo_lose.2.1 6 = .ok (.ifCond .lt 39, 3) := by decide +kernel
theorem dc_Mo_lose_9 : decode M_Mo_lose.2.1 9 = .ok (.aload_n 0, 1) := by decide +kernel
theorem dc_Mo_lose_10 : decode M_Mo_lose.2.1 10 = .ok (.getfield 81, 3) := by decide +kernel
theorem dc_Mo_lose_13 : decode M_Mo_lose.2.1 13 = .ok (.iload_n 2, 1) := by decide +kernel
theorem dc_Mo_lose_14 : decode M_Mo_lose.2.1 14 = .ok (.baload, 1) := by decide +kernel
theorem dc_Mo_lose_15 : decode M_Mo_lose.2.1 15 = .ok (.ifCond .eq 30, 3) := by decide +kernel
theorem dc_Mo_lose_18 : decode M_Mo_lose.2.1 18 = .ok (.aload_n 0, 1) := by decide +kernel
theorem dc_Mo_lose_19 : decode M_Mo_lose.2.1 19 = .ok (.getfield 81, 3) := by decide +kernel
theorem dc_Mo_lose_22 : decode M_Mo_lose.2.1 22 = .ok (.iload_n 2, 1) := by decide +kernel
theorem dc_Mo_lose_23 : decode M_Mo_lose.2.1 23 = .ok (.iconst 0, 1) := by decide +kernel
theorem dc_Mo_lose_24 : decode M_Mo_lose.2.1 24 = .ok (.bastore, 1) := by decide +kernel
theorem dc_Mo_lose_25 : decode M_Mo_lose.2.1 25 = .ok (.aload_n 0, 1) := by decide +kernel
theorem dc_Mo_lose_26 : decode M_Mo_lose.2.1 26 = .ok (.getfield 33, 3) := by decide +kernel
theorem dc_Mo_lose_29 : decode M_Mo_lose.2.1 29 = .ok (.bipush 10, 2) := by decide +kernel
theorem dc_Mo_lose_31 : decode M_Mo_lose.2.1 31 = .ok (.aload_n 0, 1) := by decide +kernel
theorem dc_Mo_lose_32 : decode M_Mo_lose.2.1 32 = .ok (.getfield 78, 3) := by decide +kernel
theorem dc_Mo_lose_35 : decode M_Mo_lose.2.1 35 = .ok (.iload_n 2, 1) := by decide +kernel
theorem dc_Mo_lose_36 : decode M_Mo_lose.2.1 36 = .ok (.iaload, 1) := by decide +kernel
theorem dc_Mo_lose_37 : decode M_Mo_lose.2.1 37 = .ok (.imul, 1) := by decide +kernel
theorem dc_Mo_lose_38 : decode M_Mo_lose.2.1 38 = .ok (.iload_n 1, 1) := by decide +kernel
theorem dc_Mo_lose_39 : decode M_Mo_lose.2.1 39 = .ok (.iadd, 1) := by decide +kernel
theorem dc_Mo_lose_40 : decode M_Mo_lose.2.1 40 = .ok (.dup2, 1) := by decide +kernel
theorem dc_Mo_lose_41 : decode M_Mo_lose.2.1 41 = .ok (.iaload, 1) := by decide +kernel
theorem dc_Mo_lose_42 : decode M_Mo_lose.2.1 42 = .ok (.iconst 1, 1) := by decide +kernel
theorem dc_Mo_lose_43 : decode M_Mo_lose.2.1 43 = .ok (.isub, 1) := by decide +kernel
theorem dc_Mo_lose_44 : decode M_Mo_lose.2.1 44 = .ok (.iastore, 1) := by decide +kernel
theorem dc_Mo_lose_45 : decode M_Mo_lose.2.1 45 = .ok (.return_, 1) := by decide +kernel
theorem dc_Mo_harm_0 : decode M_Mo_harm.2.1 0 = .ok (.aload_n 0, 1) := by decide +kernel
theorem dc_Mo_harm_1 : decode M_Mo_harm.2.1 1 = .ok (.iload_n 1, 1) := by decide +kernel
theorem dc_Mo_harm_2 : decode M_Mo_harm.2.1 2 = .ok (.invokevirtual 120, 3) := by decide +kernel
theorem dc_Mo_harm_5 : decode M_Mo_harm.2.1 5 = .ok (.ifCond .eq 43, 3) := by decide +kernel
theorem dc_Mo_harm_8 : decode M_Mo_harm.2.1 8 = .ok (.aload_n 0, 1) := by decide +kernel
theorem dc_Mo_harm_9 : decode M_Mo_harm.2.1 9 = .ok (.iload_n 2, 1) := by decide +kernel
theorem dc_Mo_harm_10 : decode M_Mo_harm.2.1 10 = .ok (.iload_n 3, 1) := by decide +kernel
theorem dc_Mo_harm_11 : decode M_Mo_harm.2.1 11 = .ok (.invokevirtual 124, 3) := by decide +kernel
theorem km_9_124 : rM 9 124 = some (1, M_Mo_isSegment) := rM_at (j := 161) (p := 1206) (by decide +kernel) rfl
theorem np_Mo_isSegment : nP M_Mo_isSegment = 2 := by decide +kernel
theorem dc_Mo_harm_14 : decode M_Mo_harm.2.1 14 = .ok (.ifCond .eq 34, 3) := by decide +kernel
theorem dc_Mo_harm_17 : decode M_Mo_harm.2.1 17 = .ok (.iload 4, 2) := by decide +kernel
theorem dc_Mo_harm_19 : decode M_Mo_harm.2.1 19 = .ok (.iconst 0, 1) := by decide +kernel
theorem dc_Mo_harm_20 : decode M_Mo_harm.2.1 20 = .ok (.aload_n 0, 1) := by decide +kernel
theorem dc_Mo_harm_21 : decode M_Mo_harm.2.1 21 = .ok (.invokevirtual 166, 3) := by decide +kernel
theorem dc_Mo_harm_24 : decode M_Mo_harm.2.1 24 = .ok (.iconst 1, 1) := by decide +kernel
theorem dc_Mo_harm_25 : decode M_Mo_harm.2.1 25 = .ok (.isub, 1) := by decide +kernel
theorem dc_Mo_harm_26 : decode M_Mo_harm.2.1 26 = .ok (.invokestatic 116, 3) := by decide +kernel
theorem dc_Mo_harm_29 : decode M_Mo_harm.2.1 29 = .ok (.ifCond .eq 19, 3) := by decide +kernel
theorem dc_Mo_harm_32 : decode M_Mo_harm.2.1 32 = .ok (.iload 5, 2) := by decide +kernel
theorem dc_Mo_harm_34 : decode M_Mo_harm.2.1 34 = .ok (.iconst 0, 1) := by decide +kernel
theorem dc_Mo_harm_35 : decode M_Mo_harm.2.1 35 = .ok (.sipush 255, 3) := by decide +kernel
theorem dc_Mo_harm_38 : decode M_Mo_harm.2.1 38 = .ok (.invokestatic 116, 3) := by decide +kernel
theorem dc_Mo_harm_41 : decode M_Mo_harm.2.1 41 = .ok (.ifCond .eq 7, 3) := by decide +kernel
theorem dc_Mo_harm_44 : decode M_Mo_harm.2.1 44 = .ok (.iconst 1, 1) := by decide +kernel
theorem dc_Mo_harm_45 : decode M_Mo_harm.2.1 45 = .ok (.goto 4, 3) := by decide +kernel
theorem dc_Mo_harm_48 : decode M_Mo_harm.2.1 48 = .ok (.iconst 0, 1) := by decide +kernel
theorem dc_Mo_harm_49 : decode M_Mo_harm.2.1 49 = .ok (.istore 6, 2) := by decide +kernel
theorem dc_Mo_harm_51 : decode M_Mo_harm.2.1 51 = .ok (.aload_n 0, 1) := by decide +kernel
theorem dc_Mo_harm_52 : decode M_Mo_harm.2.1 52 = .ok (.iload 6, 2) := by decide +kernel
theorem dc_Mo_harm_54 : decode M_Mo_harm.2.1 54 = .ok (.ifCond .eq 7, 3) := by decide +kernel
theorem dc_Mo_harm_61 : decode M_Mo_harm.2.1 61 = .ok (.iconst 1, 1) := by decide +kernel
theorem dc_Mo_harm_57 : decode M_Mo_harm.2.1 57 = .ok (.iconst 0, 1) := by decide +kernel
theorem dc_Mo_harm_58 : decode M_Mo_harm.2.1 58 = .ok (.goto 4, 3) := by decide +kernel
theorem dc_Mo_harm_62 : decode M_Mo_harm.2.1 62 = .ok (.invokevirtual 132, 3) := by decide +kernel
theorem dc_Mo_harm_65 : decode M_Mo_harm.2.1 65 = .ok (.ifCond .eq 5, 3) := by decide +kernel
theorem dc_Mo_harm_70 : decode M_Mo_harm.2.1 70 = .ok (.iconst 0, 1) := by decide +kernel
theorem dc_Mo_harm_71 : decode M_Mo_harm.2.1 71 = .ok (.istore 7, 2) := by decide +kernel
theorem dc_Mo_harm_68 : decode M_Mo_harm.2.1 68 = .ok (.iconst 0, 1) := by decide +kernel
theorem dc_Mo_harm_69 : decode M_Mo_harm.2.1 69 = .ok (.ireturn, 1) := by decide +kernel
theorem dc_Mo_harm_73 : decode M_Mo_harm.2.1 73 = .ok (.iload 7, 2) := by decide +kernel
theorem dc_Mo_harm_75 : decode M_Mo_harm.2.1 75 = .ok (.aload_n 0, 1) := by decide +kernel
theorem dc_Mo_harm_76 : decode M_Mo_harm.2.1 76 = .ok (.getfield 13, 3) := by decide +kernel
theorem dc_Mo_harm_79 : decode M_Mo_harm.2.1 79 = .ok (.if_icmp .ge 90, 3) := by decide +kernel
theorem dc_Mo_harm_169 : decode M_Mo_harm.2.1 169 = .ok (.iconst 0, 1) := by decide +kernel
theorem dc_Mo_harm_170 : decode M_Mo_harm.2.1 170 = .ok (.ireturn, 1) := by decide +kernel
theorem dc_Mo_harm_82 : decode M_Mo_harm.2.1 82 = .ok (.bipush 12, 2) := by decide +kernel
theorem dc_Mo_harm_84 : decode M_Mo_harm.2.1 84 = .ok (.bipush 40, 2) := by decide +kernel
theorem dc_Mo_harm_86 : decode M_Mo_harm.2.1 86 = .ok (.iload_n 2, 1) := by decide +kernel
theorem dc_Mo_harm_87 : decode M_Mo_harm.2.1 87 = .ok (.imul, 1) := by decide +kernel
theorem dc_Mo_harm_88 : decode M_Mo_harm.2.1 88 = .ok (.iload_n 3, 1) := by decide +kernel
theorem dc_Mo_harm_89 : decode M_Mo_harm.2.1 89 = .ok (.iadd, 1) := by decide +kernel
theorem dc_Mo_harm_90 : decode M_Mo_harm.2.1 90 = .ok (.imul, 1) := by decide +kernel
theorem dc_Mo_harm_91 : decode M_Mo_harm.2.1 91 = .ok (.iload 7, 2) := by decide +kernel
theorem dc_Mo_harm_93 : decode M_Mo_harm.2.1 93 = .ok (.iadd, 1) := by decide +kernel
theorem dc_Mo_harm_94 : decode M_Mo_harm.2.1 94 = .ok (.istore 8, 2) := by decide +kernel
theorem dc_Mo_harm_96 : decode M_Mo_harm.2.1 96 = .ok (.aload_n 0, 1) := by decide +kernel
theorem dc_Mo_harm_97 : decode M_Mo_harm.2.1 97 = .ok (.getfield 78, 3) := by decide +kernel
theorem dc_Mo_harm_100 : decode M_Mo_harm.2.1 100 = .ok (.iload 8, 2) := by decide +kernel
theorem dc_Mo_harm_102 : decode M_Mo_harm.2.1 102 = .ok (.iaload, 1) := by decide +kernel
theorem dc_Mo_harm_103 : decode M_Mo_harm.2.1 103 = .ok (.iload_n 1, 1) := by decide +kernel
theorem dc_Mo_harm_104 : decode M_Mo_harm.2.1 104 = .ok (.if_icmp .ne 59, 3) := by decide +kernel
theorem dc_Mo_harm_107 : decode M_Mo_harm.2.1 107 = .ok (.aload_n 0, 1) := by decide +kernel
theorem dc_Mo_harm_108 : decode M_Mo_harm.2.1 108 = .ok (.getfield 81, 3) := by decide +kernel
theorem dc_Mo_harm_111 : decode M_Mo_harm.2.1 111 = .ok (.iload 8, 2) := by decide +kernel
theorem dc_Mo_harm_113 : decode M_Mo_harm.2.1 113 = .ok (.baload, 1) := by decide +kernel
theorem dc_Mo_harm_114 : decode M_Mo_harm.2.1 114 = .ok (.ifCond .eq 49, 3) := by decide +kernel
theorem dc_Mo_harm_117 : decode M_Mo_harm.2.1 117 = .ok (.iload 5, 2) := by decide +kernel
theorem dc_Mo_harm_119 : decode M_Mo_harm.2.1 119 = .ok (.ifCond .ne 13, 3) := by decide +kernel
theorem dc_Mo_harm_132 : decode M_Mo_harm.2.1 132 = .ok (.aload_n 0, 1) := by decide +kernel
theorem dc_Mo_harm_133 : decode M_Mo_harm.2.1 133 = .ok (.getfield 85, 3) := by decide +kernel
theorem dc_Mo_harm_136 : decode M_Mo_harm.2.1 136 = .ok (.bipush 30, 2) := by decide +kernel
theorem dc_Mo_harm_138 : decode M_Mo_harm.2.1 138 = .ok (.iload 8, 2) := by decide +kernel
theorem dc_Mo_harm_140 : decode M_Mo_harm.2.1 140 = .ok (.imul, 1) := by decide +kernel
theorem dc_Mo_harm_141 : decode M_Mo_harm.2.1 141 = .ok (.iload 4, 2) := by decide +kernel
theorem dc_Mo_harm_143 : decode M_Mo_harm.2.1 143 = .ok (.iadd, 1) := by decide +kernel
theorem dc_Mo_harm_144 : decode M_Mo_harm.2.1 144 = .ok (.aload_n 0, 1) := by decide +kernel
theorem dc_Mo_harm_145 : decode M_Mo_harm.2.1 145 = .ok (.getfield 85, 3) := by decide +kernel
theorem dc_Mo_harm_148 : decode M_Mo_harm.2.1 148 = .ok (.bipush 30, 2) := by decide +kernel
theorem dc_Mo_harm_150 : decode M_Mo_harm.2.1 150 = .ok (.iload 8, 2) := by decide +kernel
theorem dc_Mo_harm_152 : decode M_Mo_harm.2.1 152 = .ok (.imul, 1) := by decide +kernel
theorem dc_Mo_harm_153 : decode M_Mo_harm.2.1 153 = .ok (.iload 4, 2) := by decide +kernel
theorem dc_Mo_harm_155 : decode M_Mo_harm.2.1 155 = .ok (.iadd, 1) := by decide +kernel
theorem dc_Mo_harm_156 : decode M_Mo_harm.2.1 156 = .ok (.iaload, 1) := by decide +kernel
theorem dc_Mo_harm_157 : decode M_Mo_harm.2.1 157 = .ok (.iload 5, 2) := by decide +kernel
theorem dc_Mo_harm_159 : decode M_Mo_harm.2.1 159 = .ok (.ixor, 1) := by decide +kernel
theorem dc_Mo_harm_160 : decode M_Mo_harm.2.1 160 = .ok (.iastore, 1) := by decide +kernel
theorem dc_Mo_harm_122 : decode M_Mo_harm.2.1 122 = .ok (.aload_n 0, 1) := by decide +kernel
theorem dc_Mo_harm_123 : decode M_Mo_harm.2.1 123 = .ok (.iload_n 2, 1) := by decide +kernel
theorem dc_Mo_harm_124 : decode M_Mo_harm.2.1 124 = .ok (.iload 8, 2) := by decide +kernel
theorem dc_Mo_harm_126 : decode M_Mo_harm.2.1 126 = .ok (.invokevirtual 209, 3) := by decide +kernel
theorem dc_Mo_harm_129 : decode M_Mo_harm.2.1 129 = .ok (.goto 32, 3) := by decide +kernel
theorem dc_Mo_harm_161 : decode M_Mo_harm.2.1 161 = .ok (.iconst 1, 1) := by decide +kernel
theorem dc_Mo_harm_162 : decode M_Mo_harm.2.1 162 = .ok (.ireturn, 1) := by decide +kernel
theorem dc_Mo_harm_163 : decode M_Mo_harm.2.1 163 = .ok (.iinc 7 1, 3) := by decide +kernel
theorem dc_Mo_harm_166 : decode M_Mo_harm.2.1 166 = .ok (.goto (-93), 3) := by decide +kernel
theorem dc_Mo_isSegment_0 : decode M_Mo_isSegment.2.1 0 = .ok (.aload_n 0, 1) := by decide +kernel
theorem dc_Mo_isSegment_1 : decode M_Mo_isSegment.2.1 1 = .ok (.iload_n 1, 1) := by decide +kernel
theorem dc_Mo_isSegment_2 : decode M_Mo_isSegment.2.1 2 = .ok (.invokevirtual 120, 3) := by decide +kernel
theorem dc_Mo_isSegment_5 : decode M_Mo_isSegment.2.1 5 = .ok (.ifCond .eq 37, 3) := by decide +kernel
theorem dc_Mo_isSegment_8 : decode M_Mo_isSegment.2.1 8 = .ok (.iload_n 2, 1) := by decide +kernel
theorem dc_Mo_isSegment_9 : decode M_Mo_isSegment.2.1 9 = .ok (.iconst 0, 1) := by decide +kernel
theorem dc_Mo_isSegment_10 : decode M_Mo_isSegment.2.1 10 = .ok (.aload_n 0, 1) := by decide +kernel
theorem dc_Mo_isSegment_11 : decode M_Mo_isSegment.2.1 11 = .ok (.getfield 63, 3) := by decide +kernel
theorem dc_Mo_isSegment_14 : decode M_Mo_isSegment.2.1 14 = .ok (.iload_n 1, 1) := by decide +kernel
theorem dc_Mo_isSegment_15 : decode M_Mo_isSegment.2.1 15 = .ok (.iaload, 1) := by decide +kernel
theorem dc_Mo_isSegment_16 : decode M_Mo_isSegment.2.1 16 = .ok (.iconst 1, 1) := by decide +kernel
theorem dc_Mo_isSegment_17 : decode M_Mo_isSegment.2.1 17 = .ok (.isub, 1) := by decide +kernel
theorem dc_Mo_isSegment_18 : decode M_Mo_isSegment.2.1 18 = .ok (.invokestatic 116, 3) := by decide +kernel
theorem dc_Mo_isSegment_21 : decode M_Mo_isSegment.2.1 21 = .ok (.ifCond .eq 21, 3) := by decide +kernel
theorem dc_Mo_isSegment_24 : decode M_Mo_isSegment.2.1 24 = .ok (.aload_n 0, 1) := by decide +kernel
theorem dc_Mo_isSegment_25 : decode M_Mo_isSegment.2.1 25 = .ok (.getfield 66, 3) := by decide +kernel
theorem dc_Mo_isSegment_28 : decode M_Mo_isSegment.2.1 28 = .ok (.bipush 40, 2) := by decide +kernel
theorem dc_Mo_isSegment_30 : decode M_Mo_isSegment.2.1 30 = .ok (.iload_n 1, 1) := by decide +kernel
theorem dc_Mo_isSegment_31 : decode M_Mo_isSegment.2.1 31 = .ok (.imul, 1) := by decide +kernel
theorem dc_Mo_isSegment_32 : decode M_Mo_isSegment.2.1 32 = .ok (.iload_n 2, 1) := by decide +kernel
theorem dc_Mo_isSegment_33 : decode M_Mo_isSegment.2.1 33 = .ok (.iadd, 1) := by decide +kernel
theorem dc_Mo_isSegment_34 : decode M_Mo_isSegment.2.1 34 = .ok (.baload, 1) := by decide +kernel
theorem dc_Mo_isSegment_35 : decode M_Mo_isSegment.2.1 35 = .ok (.ifCond .ne 7, 3) := by decide +kernel
theorem dc_Mo_isSegment_38 : decode M_Mo_isSegment.2.1 38 = .ok (.iconst 1, 1) := by decide +kernel
theorem dc_Mo_isSegment_39 : decode M_Mo_isSegment.2.1 39 = .ok (.goto 4, 3) := by decide +kernel
theorem dc_Mo_isSegment_42 : decode M_Mo_isSegment.2.1 42 = .ok (.iconst 0, 1) := by decide +kernel
theorem dc_Mo_isSegment_43 : decode M_Mo_isSegment.2.1 43 = .ok (.ireturn, 1) := by decide +kernel
theorem dc_Mo_recover_0 : decode M_Mo_recover.2.1 0 = .ok (.aload_n 0, 1) := by decide +kernel
theorem dc_Mo_recover_1 : decode M_Mo_recover.2.1 1 = .ok (.aload_n 0, 1) := by decide +kernel
theorem dc_Mo_recover_2 : decode M_Mo_recover.2.1 2 = .ok (.iload_n 1, 1) := by decide +kernel
theorem dc_Mo_recover_3 : decode M_Mo_recover.2.1 3 = .ok (.invokevirtual 120, 3) := by decide +kernel
theorem dc_Mo_recover_6 : decode M_Mo_recover.2.1 6 = .ok (.ifCond .eq 7, 3) := by decide +kernel
theorem dc_Mo_recover_13 : decode M_Mo_recover.2.1 13 = .ok (.iconst 1, 1) := by decide +kernel
theorem dc_Mo_recover_9 : decode M_Mo_recover.2.1 9 = .ok (.iconst 0, 1) := by decide +kernel
theorem dc_Mo_recover_10 : decode M_Mo_recover.2.1 10 = .ok (.goto 4, 3) := by decide +kernel
theorem dc_Mo_recover_14 : decode M_Mo_recover.2.1 14 = .ok (.invokevirtual 132, 3) := by decide +kernel
theorem dc_Mo_recover_17 : decode M_Mo_recover.2.1 17 = .ok (.ifCond .eq 5, 3) := by decide +kernel
theorem dc_Mo_recover_22 : decode M_Mo_recover.2.1 22 = .ok (.aload_n 0, 1) := by decide +kernel
theorem dc_Mo_recover_23 : decode M_Mo_recover.2.1 23 = .ok (.getfield 27, 3) := by decide +kernel
theorem dc_Mo_recover_26 : decode M_Mo_recover.2.1 26 = .ok (.iload_n 1, 1) := by decide +kernel
theorem dc_Mo_recover_27 : decode M_Mo_recover.2.1 27 = .ok (.baload, 1) := by decide +kernel
theorem dc_Mo_recover_28 : decode M_Mo_recover.2.1 28 = .ok (.ifCond .ne 7, 3) := by decide +kernel
theorem dc_Mo_recover_35 : decode M_Mo_recover.2.1 35 = .ok (.iconst 0, 1) := by decide +kernel
theorem dc_Mo_recover_31 : decode M_Mo_recover.2.1 31 = .ok (.iconst 1, 1) := by decide +kernel
theorem dc_Mo_recover_32 : decode M_Mo_recover.2.1 32 = .ok (.goto 4, 3) := by decide +kernel
theorem dc_Mo_recover_20 : decode M_Mo_recover.2.1 20 = .ok (.iconst 0, 1) := by decide +kernel
theorem dc_Mo_recover_21 : decode M_Mo_recover.2.1 21 = .ok (.ireturn, 1) := by decide +kernel
theorem dc_Mo_recover_36 : decode M_Mo_recover.2.1 36 = .ok (.istore_n 2, 1) := by decide +kernel
theorem dc_Mo_recover_37 : decode M_Mo_recover.2.1 37 = .ok (.sipush 480, 3) := by decide +kernel
theorem dc_Mo_recover_40 : decode M_Mo_recover.2.1 40 = .ok (.iload_n 1, 1) := by decide +kernel
theorem dc_Mo_recover_41 : decode M_Mo_recover.2.1 41 = .ok (.imul, 1) := by decide +kernel
theorem dc_Mo_recover_42 : decode M_Mo_recover.2.1 42 = .ok (.istore_n 3, 1) := by decide +kernel
theorem dc_Mo_recover_43 : decode M_Mo_recover.2.1 43 = .ok (.iload_n 3, 1) := by decide +kernel
theorem dc_Mo_recover_44 : decode M_Mo_recover.2.1 44 = .ok (.sipush 480, 3) := by decide +kernel
theorem dc_Mo_recover_47 : decode M_Mo_recover.2.1 47 = .ok (.iload_n 1, 1) := by decide +kernel
theorem dc_Mo_recover_48 : decode M_Mo_recover.2.1 48 = .ok (.imul, 1) := by decide +kernel
theorem dc_Mo_recover_49 : decode M_Mo_recover.2.1 49 = .ok (.sipush 480, 3) := by decide +kernel
theorem dc_Mo_recover_52 : decode M_Mo_recover.2.1 52 = .ok (.iadd, 1) := by decide +kernel
theorem dc_Mo_recover_53 : decode M_Mo_recover.2.1 53 = .ok (.if_icmp .ge 27, 3) := by decide +kernel
theorem dc_Mo_recover_80 : decode M_Mo_recover.2.1 80 = .ok (.aload_n 0, 1) := by decide +kernel
theorem dc_Mo_recover_81 : decode M_Mo_recover.2.1 81 = .ok (.getfield 24, 3) := by decide +kernel
theorem dc_Mo_recover_84 : decode M_Mo_recover.2.1 84 = .ok (.iload_n 1, 1) := by decide +kernel
theorem dc_Mo_recover_85 : decode M_Mo_recover.2.1 85 = .ok (.aload_n 0, 1) := by decide +kernel
theorem dc_Mo_recover_86 : decode M_Mo_recover.2.1 86 = .ok (.getfield 24, 3) := by decide +kernel
theorem dc_Mo_recover_89 : decode M_Mo_recover.2.1 89 = .ok (.iload_n 1, 1) := by decide +kernel
theorem dc_Mo_recover_90 : decode M_Mo_recover.2.1 90 = .ok (.baload, 1) := by decide +kernel
theorem dc_Mo_recover_91 : decode M_Mo_recover.2.1 91 = .ok (.ifCond .eq 11, 3) := by decide +kernel
theorem dc_Mo_recover_94 : decode M_Mo_recover.2.1 94 = .ok (.iload_n 2, 1) := by decide +kernel
theorem dc_Mo_recover_95 : decode M_Mo_recover.2.1 95 = .ok (.ifCond .ne 7, 3) := by decide +kernel
theorem dc_Mo_recover_98 : decode M_Mo_recover.2.1 98 = .ok (.iconst 1, 1) := by decide +kernel
theorem dc_Mo_recover_99 : decode M_Mo_recover.2.1 99 = .ok (.goto 4, 3) := by decide +kernel
theorem dc_Mo_recover_56 : decode M_Mo_recover.2.1 56 = .ok (.iload_n 2, 1) := by decide +kernel
theorem dc_Mo_recover_57 : decode M_Mo_recover.2.1 57 = .ok (.ifCond .ne 11, 3) := by decide +kernel
theorem dc_Mo_recover_60 : decode M_Mo_recover.2.1 60 = .ok (.aload_n 0, 1) := by decide +kernel
theorem dc_Mo_recover_61 : decode M_Mo_recover.2.1 61 = .ok (.iload_n 3, 1) := by decide +kernel
theorem dc_Mo_recover_62 : decode M_Mo_recover.2.1 62 = .ok (.invokevirtual 173, 3) := by decide +kernel
theorem km_9_173 : rM 9 173 = some (1, M_Mo_isReachable) := rM_at (j := 163) (p := 1214) (by decide +kernel) rfl
theorem np_Mo_isReachable : nP M_Mo_isReachable = 1 := by decide +kernel
theorem dc_Mo_recover_65 : decode M_Mo_recover.2.1 65 = .ok (.ifCond .eq 7, 3) := by decide +kernel
theorem dc_Mo_recover_72 : decode M_Mo_recover.2.1 72 = .ok (.iconst 0, 1) := by decide +kernel
theorem dc_Mo_recover_68 : decode M_Mo_recover.2.1 68 = .ok (.iconst 1, 1) := by decide +kernel
theorem dc_Mo_recover_69 : decode M_Mo_recover.2.1 69 = .ok (.goto 4, 3) := by decide +kernel
theorem dc_Mo_recover_73 : decode M_Mo_recover.2.1 73 = .ok (.istore_n 2, 1) := by decide +kernel
theorem dc_Mo_recover_74 : decode M_Mo_recover.2.1 74 = .ok (.iinc 3 1, 3) := by decide +kernel
theorem dc_Mo_recover_77 : decode M_Mo_recover.2.1 77 = .ok (.goto (-34), 3) := by decide +kernel
theorem dc_Mo_recover_102 : decode M_Mo_recover.2.1 102 = .ok (.iconst 0, 1) := by decide +kernel
theorem dc_Mo_recover_103 : decode M_Mo_recover.2.1 103 = .ok (.bastore, 1) := by decide +kernel
theorem dc_Mo_recover_104 : decode M_Mo_recover.2.1 104 = .ok (.aload_n 0, 1) := by decide +kernel
theorem dc_Mo_recover_105 : decode M_Mo_recover.2.1 105 = .ok (.getfield 24, 3) := by decide +kernel
theorem dc_Mo_recover_108 : decode M_Mo_recover.2.1 108 = .ok (.iload_n 1, 1) := by decide +kernel
theorem dc_Mo_recover_109 : decode M_Mo_recover.2.1 109 = .ok (.baload, 1) := by decide +kernel
theorem dc_Mo_recover_110 : decode M_Mo_recover.2.1 110 = .ok (.ifCond .ne 7, 3) := by decide +kernel
theorem dc_Mo_recover_117 : decode M_Mo_recover.2.1 117 = .ok (.iconst 0, 1) := by decide +kernel
theorem dc_Mo_recover_113 : decode M_Mo_recover.2.1 113 = .ok (.iconst 1, 1) := by decide +kernel
theorem dc_Mo_recover_114 : decode M_Mo_recover.2.1 114 = .ok (.goto 4, 3) := by decide +kernel
theorem dc_Mo_recover_118 : decode M_Mo_recover.2.1 118 = .ok (.ireturn, 1) := by decide +kernel
theorem dc_Mo_isReachable_0 : decode M_Mo_isReachable.2.1 0 = .ok (.aload_n 0, 1) := by decide +kernel
theorem dc_Mo_isReachable_1 : decode M_Mo_isReachable.2.1 1 = .ok (.getfield 78, 3) := by decide +kernel
theorem dc_Mo_isReachable_4 : decode M_Mo_isReachable.2.1 4 = .ok (.iload_n 1, 1) := by decide +kernel
theorem dc_Mo_isReachable_5 : decode M_Mo_isReachable.2.1 5 = .ok (.iaload, 1) := by decide +kernel
theorem dc_Mo_isReachable_6 : decode M_Mo_isReachable.2.1 6 = .ok (.ifCond .lt 30, 3) := by decide +kernel
theorem dc_Mo_isReachable_9 : decode M_Mo_isReachable.2.1 9 = .ok (.aload_n 0, 1) := by decide +kernel
theorem dc_Mo_isReachable_10 : decode M_Mo_isReachable.2.1 10 = .ok (.getfield 20, 3) := by decide +kernel
theorem dc_Mo_isReachable_13 : decode M_Mo_isReachable.2.1 13 = .ok (.aload_n 0, 1) := by decide +kernel
theorem dc_Mo_isReachable_14 : decode M_Mo_isReachable.2.1 14 = .ok (.getfield 78, 3) := by decide +kernel
theorem dc_Mo_isReachable_17 : decode M_Mo_isReachable.2.1 17 = .ok (.iload_n 1, 1) := by decide +kernel
theorem dc_Mo_isReachable_18 : decode M_Mo_isReachable.2.1 18 = .ok (.iaload, 1) := by decide +kernel
theorem dc_Mo_isReachable_19 : decode M_Mo_isReachable.2.1 19 = .ok (.baload, 1) := by decide +kernel
theorem dc_Mo_isReachable_20 : decode M_Mo_isReachable.2.1 20 = .ok (.ifCond .eq 16, 3) := by decide +kernel
theorem dc_Mo_isReachable_23 : decode M_Mo_isReachable.2.1 23 = .ok (.aload_n 0, 1) := by decide +kernel
theorem dc_Mo_isReachable_24 : decode M_Mo_isReachable.2.1 24 = .ok (.getfield 81, 3) := by decide +kernel
theorem dc_Mo_isReachable_27 : decode M_Mo_isReachable.2.1 27 = .ok (.iload_n 1, 1) := by decide +kernel
theorem dc_Mo_isReachable_28 : decode M_Mo_isReachable.2.1 28 = .ok (.baload, 1) := by decide +kernel
theorem dc_Mo_isReachable_29 : decode M_Mo_isReachable.2.1 29 = .ok (.ifCond .eq 7, 3) := by decide +kernel
theorem dc_Mo_isReachable_32 : decode M_Mo_isReachable.2.1 32 = .ok (.iconst 1, 1) := by decide +kernel
theorem dc_Mo_isReachable_33 : decode M_Mo_isReachable.2.1 33 = .ok (.goto 4, 3) := by decide +kernel
theorem dc_Mo_isReachable_36 : decode M_Mo_isReachable.2.1 36 = .ok (.iconst 0, 1) := by decide +kernel
theorem dc_Mo_isReachable_37 : decode M_Mo_isReachable.2.1 37 = .ok (.ireturn, 1) := by decide +kernel
theorem dc_Mo_sample_0 : decode M_Mo_sample.2.1 0 = .ok (.aload_n 0, 1) := by decide +kernel
theorem dc_Mo_sample_1 : decode M_Mo_sample.2.1 1 = .ok (.aload_n 0, 1) := by decide +kernel
theorem dc_Mo_sample_2 : decode M_Mo_sample.2.1 2 = .ok (.iload_n 1, 1) := by decide +kernel
theorem dc_Mo_sample_3 : decode M_Mo_sample.2.1 3 = .ok (.iload_n 2, 1) := by decide +kernel
theorem dc_Mo_sample_4 : decode M_Mo_sample.2.1 4 = .ok (.iload_n 3, 1) := by decide +kernel
theorem dc_Mo_sample_5 : decode M_Mo_sample.2.1 5 = .ok (.invokevirtual 213, 3) := by decide +kernel
theorem km_9_213 : rM 9 213 = some (1, M_Mo_isPiece) := rM_at (j := 165) (p := 1222) (by decide +kernel) rfl
theorem np_Mo_isPiece : nP M_Mo_isPiece = 3 := by decide +kernel
theorem dc_Mo_sample_8 : decode M_Mo_sample.2.1 8 = .ok (.ifCond .ne 7, 3) := by decide +kernel
theorem dc_Mo_sample_15 : decode M_Mo_sample.2.1 15 = .ok (.aload_n 0, 1) := by decide +kernel
theorem dc_Mo_sample_16 : decode M_Mo_sample.2.1 16 = .ok (.getfield 24, 3) := by decide +kernel
theorem dc_Mo_sample_19 : decode M_Mo_sample.2.1 19 = .ok (.iload_n 1, 1) := by decide +kernel
theorem dc_Mo_sample_20 : decode M_Mo_sample.2.1 20 = .ok (.baload, 1) := by decide +kernel
theorem dc_Mo_sample_21 : decode M_Mo_sample.2.1 21 = .ok (.ifCond .eq 7, 3) := by decide +kernel
theorem dc_Mo_sample_28 : decode M_Mo_sample.2.1 28 = .ok (.iconst 0, 1) := by decide +kernel
theorem dc_Mo_sample_24 : decode M_Mo_sample.2.1 24 = .ok (.iconst 2, 1) := by decide +kernel
theorem dc_Mo_sample_25 : decode M_Mo_sample.2.1 25 = .ok (.goto 4, 3) := by decide +kernel
theorem dc_Mo_sample_11 : decode M_Mo_sample.2.1 11 = .ok (.iconst 1, 1) := by decide +kernel
theorem dc_Mo_sample_12 : decode M_Mo_sample.2.1 12 = .ok (.goto 17, 3) := by decide +kernel
theorem dc_Mo_sample_29 : decode M_Mo_sample.2.1 29 = .ok (.invokevirtual 132, 3) := by decide +kernel
theorem dc_Mo_sample_32 : decode M_Mo_sample.2.1 32 = .ok (.ifCond .eq 5, 3) := by decide +kernel
theorem dc_Mo_sample_37 : decode M_Mo_sample.2.1 37 = .ok (.bipush 12, 2) := by decide +kernel
theorem dc_Mo_sample_39 : decode M_Mo_sample.2.1 39 = .ok (.bipush 40, 2) := by decide +kernel
theorem dc_Mo_sample_41 : decode M_Mo_sample.2.1 41 = .ok (.iload_n 1, 1) := by decide +kernel
theorem dc_Mo_sample_42 : decode M_Mo_sample.2.1 42 = .ok (.imul, 1) := by decide +kernel
theorem dc_Mo_sample_43 : decode M_Mo_sample.2.1 43 = .ok (.iload_n 2, 1) := by decide +kernel
theorem dc_Mo_sample_44 : decode M_Mo_sample.2.1 44 = .ok (.iadd, 1) := by decide +kernel
theorem dc_Mo_sample_45 : decode M_Mo_sample.2.1 45 = .ok (.imul, 1) := by decide +kernel
theorem dc_Mo_sample_46 : decode M_Mo_sample.2.1 46 = .ok (.iload_n 3, 1) := by decide +kernel
theorem dc_Mo_sample_47 : decode M_Mo_sample.2.1 47 = .ok (.iadd, 1) := by decide +kernel
theorem dc_Mo_sample_48 : decode M_Mo_sample.2.1 48 = .ok (.istore 4, 2) := by decide +kernel
theorem dc_Mo_sample_50 : decode M_Mo_sample.2.1 50 = .ok (.aload_n 0, 1) := by decide +kernel
theorem dc_Mo_sample_51 : decode M_Mo_sample.2.1 51 = .ok (.getfield 78, 3) := by decide +kernel
theorem dc_Mo_sample_54 : decode M_Mo_sample.2.1 54 = .ok (.iload 4, 2) := by decide +kernel
theorem dc_Mo_sample_56 : decode M_Mo_sample.2.1 56 = .ok (.iaload, 1) := by decide +kernel
theorem dc_Mo_sample_57 : decode M_Mo_sample.2.1 57 = .ok (.ifCond .lt 15, 3) := by decide +kernel
theorem dc_Mo_sample_60 : decode M_Mo_sample.2.1 60 = .ok (.aload_n 0, 1) := by decide +kernel
theorem dc_Mo_sample_61 : decode M_Mo_sample.2.1 61 = .ok (.getfield 88, 3) := by decide +kernel
theorem dc_Mo_sample_64 : decode M_Mo_sample.2.1 64 = .ok (.iload 4, 2) := by decide +kernel
theorem dc_Mo_sample_66 : decode M_Mo_sample.2.1 66 = .ok (.iaload, 1) := by decide +kernel
theorem dc_Mo_sample_67 : decode M_Mo_sample.2.1 67 = .ok (.bipush 8, 2) := by decide +kernel
theorem dc_Mo_sample_69 : decode M_Mo_sample.2.1 69 = .ok (.if_icmp .ne 5, 3) := by decide +kernel
theorem dc_Mo_sample_74 : decode M_Mo_sample.2.1 74 = .ok (.aload_n 0, 1) := by decide +kernel
theorem dc_Mo_sample_75 : decode M_Mo_sample.2.1 75 = .ok (.getfield 88, 3) := by decide +kernel
theorem dc_Mo_sample_78 : decode M_Mo_sample.2.1 78 = .ok (.iload 4, 2) := by decide +kernel
theorem dc_Mo_sample_80 : decode M_Mo_sample.2.1 80 = .ok (.iaload, 1) := by decide +kernel
theorem dc_Mo_sample_81 : decode M_Mo_sample.2.1 81 = .ok (.istore 5, 2) := by decide +kernel
theorem dc_Mo_sample_83 : decode M_Mo_sample.2.1 83 = .ok (.aload_n 0, 1) := by decide +kernel
theorem dc_Mo_sample_84 : decode M_Mo_sample.2.1 84 = .ok (.getfield 88, 3) := by decide +kernel
theorem dc_Mo_sample_87 : decode M_Mo_sample.2.1 87 = .ok (.iload 4, 2) := by decide +kernel
theorem dc_Mo_sample_89 : decode M_Mo_sample.2.1 89 = .ok (.dup2, 1) := by decide +kernel
theorem dc_Mo_sample_90 : decode M_Mo_sample.2.1 90 = .ok (.iaload, 1) := by decide +kernel
theorem dc_Mo_sample_91 : decode M_Mo_sample.2.1 91 = .ok (.iconst 1, 1) := by decide +kernel
theorem dc_Mo_sample_92 : decode M_Mo_sample.2.1 92 = .ok (.iadd, 1) := by decide +kernel
theorem dc_Mo_sample_93 : decode M_Mo_sample.2.1 93 = .ok (.iastore, 1) := by decide +kernel
theorem dc_Mo_sample_94 : decode M_Mo_sample.2.1 94 = .ok (.aload_n 0, 1) := by decide +kernel
theorem dc_Mo_sample_95 : decode M_Mo_sample.2.1 95 = .ok (.getfield 20, 3) := by decide +kernel
theorem dc_Mo_sample_98 : decode M_Mo_sample.2.1 98 = .ok (.aload_n 0, 1) := by decide +kernel
theorem dc_Mo_sample_99 : decode M_Mo_sample.2.1 99 = .ok (.getfield 78, 3) := by decide +kernel
theorem dc_Mo_sample_102 : decode M_Mo_sample.2.1 102 = .ok (.iload 4, 2) := by decide +kernel
theorem dc_Mo_sample_104 : decode M_Mo_sample.2.1 104 = .ok (.iaload, 1) := by decide +kernel
theorem dc_Mo_sample_105 : decode M_Mo_sample.2.1 105 = .ok (.baload, 1) := by decide +kernel
theorem dc_Mo_sample_106 : decode M_Mo_sample.2.1 106 = .ok (.ifCond .ne 5, 3) := by decide +kernel
theorem dc_Mo_sample_111 : decode M_Mo_sample.2.1 111 = .ok (.aload_n 0, 1) := by decide +kernel
theorem dc_Mo_sample_112 : decode M_Mo_sample.2.1 112 = .ok (.getfield 81, 3) := by decide +kernel
theorem dc_Mo_sample_115 : decode M_Mo_sample.2.1 115 = .ok (.iload 4, 2) := by decide +kernel
theorem dc_Mo_sample_117 : decode M_Mo_sample.2.1 117 = .ok (.baload, 1) := by decide +kernel
theorem dc_Mo_sample_118 : decode M_Mo_sample.2.1 118 = .ok (.ifCond .eq 41, 3) := by decide +kernel
theorem dc_Mo_sample_121 : decode M_Mo_sample.2.1 121 = .ok (.aload_n 0, 1) := by decide +kernel
theorem dc_Mo_sample_122 : decode M_Mo_sample.2.1 122 = .ok (.getfield 85, 3) := by decide +kernel
theorem dc_Mo_sample_125 : decode M_Mo_sample.2.1 125 = .ok (.bipush 30, 2) := by decide +kernel
theorem dc_Mo_sample_127 : decode M_Mo_sample.2.1 127 = .ok (.iload 4, 2) := by decide +kernel
theorem dc_Mo_sample_129 : decode M_Mo_sample.2.1 129 = .ok (.imul, 1) := by decide +kernel
theorem dc_Mo_sample_130 : decode M_Mo_sample.2.1 130 = .ok (.aload_n 0, 1) := by decide +kernel
theorem dc_Mo_sample_131 : decode M_Mo_sample.2.1 131 = .ok (.invokevirtual 166, 3) := by decide +kernel
theorem dc_Mo_sample_109 : decode M_Mo_sample.2.1 109 = .ok (.iconst 2, 1) := by decide +kernel
theorem dc_Mo_sample_110 : decode M_Mo_sample.2.1 110 = .ok (.ireturn, 1) := by decide +kernel
theorem dc_Mo_sample_35 : decode M_Mo_sample.2.1 35 = .ok (.iconst 0, 1) := by decide +kernel
theorem dc_Mo_sample_36 : decode M_Mo_sample.2.1 36 = .ok (.ireturn, 1) := by decide +kernel
theorem dc_Mo_sample_72 : decode M_Mo_sample.2.1 72 = .ok (.iconst (-1), 1) := by decide +kernel
theorem dc_Mo_sample_73 : decode M_Mo_sample.2.1 73 = .ok (.ireturn, 1) := by decide +kernel
theorem dc_Mo_sample_134 : decode M_Mo_sample.2.1 134 = .ok (.iload 5, 2) := by decide +kernel
theorem dc_Mo_sample_136 : decode M_Mo_sample.2.1 136 = .ok (.invokestatic 199, 3) := by decide +kernel
theorem dc_Mo_sample_139 : decode M_Mo_sample.2.1 139 = .ok (.aload_n 0, 1) := by decide +kernel
theorem dc_Mo_sample_140 : decode M_Mo_sample.2.1 140 = .ok (.getfield 92, 3) := by decide +kernel
theorem dc_Mo_sample_143 : decode M_Mo_sample.2.1 143 = .ok (.bipush 8, 2) := by decide +kernel
theorem dc_Mo_sample_145 : decode M_Mo_sample.2.1 145 = .ok (.iload 4, 2) := by decide +kernel
theorem dc_Mo_sample_147 : decode M_Mo_sample.2.1 147 = .ok (.imul, 1) := by decide +kernel
theorem dc_Mo_sample_148 : decode M_Mo_sample.2.1 148 = .ok (.iload 5, 2) := by decide +kernel
theorem dc_Mo_sample_150 : decode M_Mo_sample.2.1 150 = .ok (.iadd, 1) := by decide +kernel
theorem dc_Mo_sample_151 : decode M_Mo_sample.2.1 151 = .ok (.iaload, 1) := by decide +kernel
theorem dc_Mo_sample_152 : decode M_Mo_sample.2.1 152 = .ok (.if_icmp .ne 7, 3) := by decide +kernel
theorem dc_Mo_sample_155 : decode M_Mo_sample.2.1 155 = .ok (.iconst 1, 1) := by decide +kernel
theorem dc_Mo_sample_156 : decode M_Mo_sample.2.1 156 = .ok (.goto 4, 3) := by decide +kernel
theorem dc_Mo_sample_159 : decode M_Mo_sample.2.1 159 = .ok (.iconst 0, 1) := by decide +kernel
theorem dc_Mo_sample_160 : decode M_Mo_sample.2.1 160 = .ok (.ireturn, 1) := by decide +kernel
theorem dc_Mo_isPiece_0 : decode M_Mo_isPiece.2.1 0 = .ok (.aload_n 0, 1) := by decide +kernel
theorem dc_Mo_isPiece_1 : decode M_Mo_isPiece.2.1 1 = .ok (.iload_n 1, 1) := by decide +kernel
theorem dc_Mo_isPiece_2 : decode M_Mo_isPiece.2.1 2 = .ok (.iload_n 2, 1) := by decide +kernel
theorem dc_Mo_isPiece_3 : decode M_Mo_isPiece.2.1 3 = .ok (.invokevirtual 124, 3) := by decide +kernel
theorem dc_Mo_isPiece_6 : decode M_Mo_isPiece.2.1 6 = .ok (.ifCond .eq 21, 3) := by decide +kernel
theorem dc_Mo_isPiece_9 : decode M_Mo_isPiece.2.1 9 = .ok (.iload_n 3, 1) := by decide +kernel
theorem dc_Mo_isPiece_10 : decode M_Mo_isPiece.2.1 10 = .ok (.iconst 0, 1) := by decide +kernel
theorem dc_Mo_isPiece_11 : decode M_Mo_isPiece.2.1 11 = .ok (.aload_n 0, 1) := by decide +kernel
theorem dc_Mo_isPiece_12 : decode M_Mo_isPiece.2.1 12 = .ok (.getfield 13, 3) := by decide +kernel
theorem dc_Mo_isPiece_15 : decode M_Mo_isPiece.2.1 15 = .ok (.iconst 1, 1) := by decide +kernel
theorem dc_Mo_isPiece_16 : decode M_Mo_isPiece.2.1 16 = .ok (.isub, 1) := by decide +kernel
theorem dc_Mo_isPiece_17 : decode M_Mo_isPiece.2.1 17 = .ok (.invokestatic 116, 3) := by decide +kernel
theorem dc_Mo_isPiece_20 : decode M_Mo_isPiece.2.1 20 = .ok (.ifCond .eq 7, 3) := by decide +kernel
theorem dc_Mo_isPiece_23 : decode M_Mo_isPiece.2.1 23 = .ok (.iconst 1, 1) := by decide +kernel
theorem dc_Mo_isPiece_24 : decode M_Mo_isPiece.2.1 24 = .ok (.goto 4, 3) := by decide +kernel
theorem dc_Mo_isPiece_27 : decode M_Mo_isPiece.2.1 27 = .ok (.iconst 0, 1) := by decide +kernel
theorem dc_Mo_isPiece_28 : decode M_Mo_isPiece.2.1 28 = .ok (.ireturn, 1) := by decide +kernel
theorem dc_Mo_audit_0 : decode M_Mo_audit.2.1 0 = .ok (.aload_n 0, 1) := by decide +kernel
theorem dc_Mo_audit_1 : decode M_Mo_audit.2.1 1 = .ok (.aload_n 0, 1) := by decide +kernel
theorem dc_Mo_audit_2 : decode M_Mo_audit.2.1 2 = .ok (.iload_n 1, 1) := by decide +kernel
theorem dc_Mo_audit_3 : decode M_Mo_audit.2.1 3 = .ok (.invokevirtual 120, 3) := by decide +kernel
theorem dc_Mo_audit_6 : decode M_Mo_audit.2.1 6 = .ok (.ifCond .ne 7, 3) := by decide +kernel
theorem dc_Mo_audit_13 : decode M_Mo_audit.2.1 13 = .ok (.aload_n 0, 1) := by decide +kernel
theorem dc_Mo_audit_14 : decode M_Mo_audit.2.1 14 = .ok (.getfield 24, 3) := by decide +kernel
theorem dc_Mo_audit_17 : decode M_Mo_audit.2.1 17 = .ok (.iload_n 1, 1) := by decide +kernel
theorem dc_Mo_audit_18 : decode M_Mo_audit.2.1 18 = .ok (.baload, 1) := by decide +kernel
theorem dc_Mo_audit_19 : decode M_Mo_audit.2.1 19 = .ok (.ifCond .eq 7, 3) := by decide +kernel
theorem dc_Mo_audit_26 : decode M_Mo_audit.2.1 26 = .ok (.iconst 0, 1) := by decide +kernel
theorem dc_Mo_audit_22 : decode M_Mo_audit.2.1 22 = .ok (.iconst 2, 1) := by decide +kernel
theorem dc_Mo_audit_23 : decode M_Mo_audit.2.1 23 = .ok (.goto 4, 3) := by decide +kernel
theorem dc_Mo_audit_9 : decode M_Mo_audit.2.1 9 = .ok (.iconst 1, 1) := by decide +kernel
theorem dc_Mo_audit_10 : decode M_Mo_audit.2.1 10 = .ok (.goto 17, 3) := by decide +kernel
theorem dc_Mo_audit_27 : decode M_Mo_audit.2.1 27 = .ok (.invokevirtual 132, 3) := by decide +kernel
theorem dc_Mo_audit_30 : decode M_Mo_audit.2.1 30 = .ok (.ifCond .eq 5, 3) := by decide +kernel
theorem dc_Mo_audit_35 : decode M_Mo_audit.2.1 35 = .ok (.iconst 0, 1) := by decide +kernel
theorem dc_Mo_audit_36 : decode M_Mo_audit.2.1 36 = .ok (.istore_n 2, 1) := by decide +kernel
theorem dc_Mo_audit_37 : decode M_Mo_audit.2.1 37 = .ok (.bipush 40, 2) := by decide +kernel
theorem dc_Mo_audit_39 : decode M_Mo_audit.2.1 39 = .ok (.iload_n 1, 1) := by decide +kernel
theorem dc_Mo_audit_40 : decode M_Mo_audit.2.1 40 = .ok (.imul, 1) := by decide +kernel
theorem dc_Mo_audit_41 : decode M_Mo_audit.2.1 41 = .ok (.istore_n 3, 1) := by decide +kernel
theorem dc_Mo_audit_33 : decode M_Mo_audit.2.1 33 = .ok (.iconst 0, 1) := by decide +kernel
theorem dc_Mo_audit_34 : decode M_Mo_audit.2.1 34 = .ok (.ireturn, 1) := by decide +kernel
theorem dc_Mo_audit_42 : decode M_Mo_audit.2.1 42 = .ok (.iload_n 3, 1) := by decide +kernel
theorem dc_Mo_audit_43 : decode M_Mo_audit.2.1 43 = .ok (.bipush 40, 2) := by decide +kernel
theorem dc_Mo_audit_45 : decode M_Mo_audit.2.1 45 = .ok (.iload_n 1, 1) := by decide +kernel
theorem dc_Mo_audit_46 : decode M_Mo_audit.2.1 46 = .ok (.imul, 1) := by decide +kernel
theorem dc_Mo_audit_47 : decode M_Mo_audit.2.1 47 = .ok (.aload_n 0, 1) := by decide +kernel
theorem dc_Mo_audit_48 : decode M_Mo_audit.2.1 48 = .ok (.getfield 63, 3) := by decide +kernel
theorem dc_Mo_audit_51 : decode M_Mo_audit.2.1 51 = .ok (.iload_n 1, 1) := by decide +kernel
theorem dc_Mo_audit_52 : decode M_Mo_audit.2.1 52 = .ok (.iaload, 1) := by decide +kernel
theorem dc_Mo_audit_53 : decode M_Mo_audit.2.1 53 = .ok (.iadd, 1) := by decide +kernel
theorem dc_Mo_audit_54 : decode M_Mo_audit.2.1 54 = .ok (.if_icmp .ge 124, 3) := by decide +kernel
theorem dc_Mo_audit_178 : decode M_Mo_audit.2.1 178 = .ok (.iload_n 2, 1) := by decide +kernel
theorem dc_Mo_audit_179 : decode M_Mo_audit.2.1 179 = .ok (.ireturn, 1) := by decide +kernel
theorem dc_Mo_audit_57 : decode M_Mo_audit.2.1 57 = .ok (.iconst 0, 1) := by decide +kernel
theorem dc_Mo_audit_58 : decode M_Mo_audit.2.1 58 = .ok (.istore 4, 2) := by decide +kernel
theorem dc_Mo_audit_60 : decode M_Mo_audit.2.1 60 = .ok (.iload 4, 2) := by decide +kernel
theorem dc_Mo_audit_62 : decode M_Mo_audit.2.1 62 = .ok (.aload_n 0, 1) := by decide +kernel
theorem dc_Mo_audit_63 : decode M_Mo_audit.2.1 63 = .ok (.getfield 13, 3) := by decide +kernel
theorem dc_Mo_audit_66 : decode M_Mo_audit.2.1 66 = .ok (.if_icmp .ge 106, 3) := by decide +kernel
theorem dc_Mo_audit_69 : decode M_Mo_audit.2.1 69 = .ok (.aload_n 0, 1) := by decide +kernel
theorem dc_Mo_audit_70 : decode M_Mo_audit.2.1 70 = .ok (.getfield 69, 3) := by decide +kernel
theorem dc_Mo_audit_73 : decode M_Mo_audit.2.1 73 = .ok (.iload_n 3, 1) := by decide +kernel
theorem dc_Mo_audit_74 : decode M_Mo_audit.2.1 74 = .ok (.baload, 1) := by decide +kernel
theorem dc_Mo_audit_75 : decode M_Mo_audit.2.1 75 = .ok (.ifCond .eq 97, 3) := by decide +kernel
theorem dc_Mo_audit_78 : decode M_Mo_audit.2.1 78 = .ok (.bipush 12, 2) := by decide +kernel
theorem dc_Mo_audit_80 : decode M_Mo_audit.2.1 80 = .ok (.iload_n 3, 1) := by decide +kernel
theorem dc_Mo_audit_81 : decode M_Mo_audit.2.1 81 = .ok (.imul, 1) := by decide +kernel
theorem dc_Mo_audit_82 : decode M_Mo_audit.2.1 82 = .ok (.iload 4, 2) := by decide +kernel
theorem dc_Mo_audit_84 : decode M_Mo_audit.2.1 84 = .ok (.iadd, 1) := by decide +kernel
theorem dc_Mo_audit_85 : decode M_Mo_audit.2.1 85 = .ok (.istore 5, 2) := by decide +kernel
theorem dc_Mo_audit_87 : decode M_Mo_audit.2.1 87 = .ok (.aload_n 0, 1) := by decide +kernel
theorem dc_Mo_audit_88 : decode M_Mo_audit.2.1 88 = .ok (.getfield 78, 3) := by decide +kernel
theorem dc_Mo_audit_91 : decode M_Mo_audit.2.1 91 = .ok (.iload 5, 2) := by decide +kernel
theorem dc_Mo_audit_93 : decode M_Mo_audit.2.1 93 = .ok (.iaload, 1) := by decide +kernel
theorem dc_Mo_audit_94 : decode M_Mo_audit.2.1 94 = .ok (.ifCond .lt 22, 3) := by decide +kernel
theorem dc_Mo_audit_97 : decode M_Mo_audit.2.1 97 = .ok (.aload_n 0, 1) := by decide +kernel
theorem dc_Mo_audit_98 : decode M_Mo_audit.2.1 98 = .ok (.getfield 20, 3) := by decide +kernel
theorem dc_Mo_audit_101 : decode M_Mo_audit.2.1 101 = .ok (.aload_n 0, 1) := by decide +kernel
theorem dc_Mo_audit_102 : decode M_Mo_audit.2.1 102 = .ok (.getfield 78, 3) := by decide +kernel
theorem dc_Mo_audit_105 : decode M_Mo_audit.2.1 105 = .ok (.iload 5, 2) := by decide +kernel
theorem dc_Mo_audit_107 : decode M_Mo_audit.2.1 107 = .ok (.iaload, 1) := by decide +kernel
theorem dc_Mo_audit_108 : decode M_Mo_audit.2.1 108 = .ok (.baload, 1) := by decide +kernel
theorem dc_Mo_audit_109 : decode M_Mo_audit.2.1 109 = .ok (.ifCond .eq 7, 3) := by decide +kernel
theorem dc_Mo_audit_112 : decode M_Mo_audit.2.1 112 = .ok (.iconst 1, 1) := by decide +kernel
theorem dc_Mo_audit_113 : decode M_Mo_audit.2.1 113 = .ok (.goto 4, 3) := by decide +kernel
theorem dc_Mo_audit_116 : decode M_Mo_audit.2.1 116 = .ok (.iconst 0, 1) := by decide +kernel
theorem dc_Mo_audit_117 : decode M_Mo_audit.2.1 117 = .ok (.istore 6, 2) := by decide +kernel
theorem dc_Mo_audit_119 : decode M_Mo_audit.2.1 119 = .ok (.iload 6, 2) := by decide +kernel
theorem dc_Mo_audit_121 : decode M_Mo_audit.2.1 121 = .ok (.ifCond .eq 45, 3) := by decide +kernel
theorem dc_Mo_audit_124 : decode M_Mo_audit.2.1 124 = .ok (.aload_n 0, 1) := by decide +kernel
theorem dc_Mo_audit_125 : decode M_Mo_audit.2.1 125 = .ok (.getfield 81, 3) := by decide +kernel
theorem dc_Mo_audit_128 : decode M_Mo_audit.2.1 128 = .ok (.iload 5, 2) := by decide +kernel
theorem dc_Mo_audit_130 : decode M_Mo_audit.2.1 130 = .ok (.baload, 1) := by decide +kernel
theorem dc_Mo_audit_131 : decode M_Mo_audit.2.1 131 = .ok (.ifCond .eq 17, 3) := by decide +kernel
theorem dc_Mo_audit_134 : decode M_Mo_audit.2.1 134 = .ok (.aload_n 0, 1) := by decide +kernel
theorem dc_Mo_audit_135 : decode M_Mo_audit.2.1 135 = .ok (.aload_n 0, 1) := by decide +kernel
theorem dc_Mo_audit_136 : decode M_Mo_audit.2.1 136 = .ok (.getfield 75, 3) := by decide +kernel
theorem dc_Mo_audit_139 : decode M_Mo_audit.2.1 139 = .ok (.iload_n 3, 1) := by decide +kernel
theorem dc_Mo_audit_140 : decode M_Mo_audit.2.1 140 = .ok (.iload 4, 2) := by decide +kernel
theorem dc_Mo_audit_142 : decode M_Mo_audit.2.1 142 = .ok (.invokevirtual 216, 3) := by decide +kernel
theorem km_9_216 : rM 9 216 = some (1, M_Mo_isRight) := rM_at (j := 167) (p := 1230) (by decide +kernel) rfl
theorem np_Mo_isRight : nP M_Mo_isRight = 3 := by decide +kernel
theorem dc_Mo_audit_145 : decode M_Mo_audit.2.1 145 = .ok (.ifCond .ne 21, 3) := by decide +kernel
theorem dc_Mo_audit_148 : decode M_Mo_audit.2.1 148 = .ok (.aload_n 0, 1) := by decide +kernel
theorem dc_Mo_audit_149 : decode M_Mo_audit.2.1 149 = .ok (.iload_n 1, 1) := by decide +kernel
theorem dc_Mo_audit_150 : decode M_Mo_audit.2.1 150 = .ok (.iload 5, 2) := by decide +kernel
theorem dc_Mo_audit_152 : decode M_Mo_audit.2.1 152 = .ok (.invokevirtual 209, 3) := by decide +kernel
theorem dc_Mo_audit_155 : decode M_Mo_audit.2.1 155 = .ok (.aload_n 0, 1) := by decide +kernel
theorem dc_Mo_audit_156 : decode M_Mo_audit.2.1 156 = .ok (.getfield 78, 3) := by decide +kernel
theorem dc_Mo_audit_159 : decode M_Mo_audit.2.1 159 = .ok (.iload 5, 2) := by decide +kernel
theorem dc_Mo_audit_161 : decode M_Mo_audit.2.1 161 = .ok (.iconst (-1), 1) := by decide +kernel
theorem dc_Mo_audit_162 : decode M_Mo_audit.2.1 162 = .ok (.iastore, 1) := by decide +kernel
theorem dc_Mo_audit_163 : decode M_Mo_audit.2.1 163 = .ok (.iinc 2 1, 3) := by decide +kernel
theorem dc_Mo_audit_166 : decode M_Mo_audit.2.1 166 = .ok (.iinc 4 1, 3) := by decide +kernel
theorem dc_Mo_audit_169 : decode M_Mo_audit.2.1 169 = .ok (.goto (-109), 3) := by decide +kernel
theorem dc_Mo_audit_172 : decode M_Mo_audit.2.1 172 = .ok (.iinc 3 1, 3) := by decide +kernel
theorem dc_Mo_audit_175 : decode M_Mo_audit.2.1 175 = .ok (.goto (-133), 3) := by decide +kernel
theorem dc_Mo_isRight_0 : decode M_Mo_isRight.2.1 0 = .ok (.aload_n 0, 1) := by decide +kernel
theorem dc_Mo_isRight_1 : decode M_Mo_isRight.2.1 1 = .ok (.aload_n 1, 1) := by decide +kernel
theorem dc_Mo_isRight_2 : decode M_Mo_isRight.2.1 2 = .ok (.iload_n 2, 1) := by decide +kernel
theorem dc_Mo_isRight_3 : decode M_Mo_isRight.2.1 3 = .ok (.iload_n 3, 1) := by decide +kernel
theorem dc_Mo_isRight_4 : decode M_Mo_isRight.2.1 4 = .ok (.invokevirtual 195, 3) := by decide +kernel
theorem dc_Mo_isRight_7 : decode M_Mo_isRight.2.1 7 = .ok (.iconst 1, 1) := by decide +kernel
theorem dc_Mo_isRight_8 : decode M_Mo_isRight.2.1 8 = .ok (.istore 4, 2) := by decide +kernel
theorem dc_Mo_isRight_10 : decode M_Mo_isRight.2.1 10 = .ok (.iconst 0, 1) := by decide +kernel
theorem dc_Mo_isRight_11 : decode M_Mo_isRight.2.1 11 = .ok (.istore 5, 2) := by decide +kernel
theorem dc_Mo_isRight_13 : decode M_Mo_isRight.2.1 13 = .ok (.iload 5, 2) := by decide +kernel
theorem dc_Mo_isRight_15 : decode M_Mo_isRight.2.1 15 = .ok (.aload_n 0, 1) := by decide +kernel
theorem dc_Mo_isRight_16 : decode M_Mo_isRight.2.1 16 = .ok (.invokevirtual 166, 3) := by decide +kernel
theorem dc_Mo_isRight_19 : decode M_Mo_isRight.2.1 19 = .ok (.if_icmp .ge 48, 3) := by decide +kernel
theorem dc_Mo_isRight_67 : decode M_Mo_isRight.2.1 67 = .ok (.iload 4, 2) := by decide +kernel
theorem dc_Mo_isRight_69 : decode M_Mo_isRight.2.1 69 = .ok (.ireturn, 1) := by decide +kernel
theorem dc_Mo_isRight_22 : decode M_Mo_isRight.2.1 22 = .ok (.iload 4, 2) := by decide +kernel
theorem dc_Mo_isRight_24 : decode M_Mo_isRight.2.1 24 = .ok (.ifCond .eq 34, 3) := by decide +kernel
theorem dc_Mo_isRight_27 : decode M_Mo_isRight.2.1 27 = .ok (.aload_n 0, 1) := by decide +kernel
theorem dc_Mo_isRight_28 : decode M_Mo_isRight.2.1 28 = .ok (.getfield 95, 3) := by decide +kernel
theorem dc_Mo_isRight_31 : decode M_Mo_isRight.2.1 31 = .ok (.iload 5, 2) := by decide +kernel
theorem dc_Mo_isRight_33 : decode M_Mo_isRight.2.1 33 = .ok (.iaload, 1) := by decide +kernel
theorem dc_Mo_isRight_34 : decode M_Mo_isRight.2.1 34 = .ok (.aload_n 0, 1) := by decide +kernel
theorem dc_Mo_isRight_35 : decode M_Mo_isRight.2.1 35 = .ok (.getfield 85, 3) := by decide +kernel
theorem dc_Mo_isRight_38 : decode M_Mo_isRight.2.1 38 = .ok (.bipush 30, 2) := by decide +kernel
theorem dc_Mo_isRight_40 : decode M_Mo_isRight.2.1 40 = .ok (.bipush 12, 2) := by decide +kernel
theorem dc_Mo_isRight_42 : decode M_Mo_isRight.2.1 42 = .ok (.iload_n 2, 1) := by decide +kernel
theorem dc_Mo_isRight_43 : decode M_Mo_isRight.2.1 43 = .ok (.imul, 1) := by decide +kernel
theorem dc_Mo_isRight_44 : decode M_Mo_isRight.2.1 44 = .ok (.iload_n 3, 1) := by decide +kernel
theorem dc_Mo_isRight_45 : decode M_Mo_isRight.2.1 45 = .ok (.iadd, 1) := by decide +kernel
theorem dc_Mo_isRight_46 : decode M_Mo_isRight.2.1 46 = .ok (.imul, 1) := by decide +kernel
theorem dc_Mo_isRight_47 : decode M_Mo_isRight.2.1 47 = .ok (.iload 5, 2) := by decide +kernel
theorem dc_Mo_isRight_49 : decode M_Mo_isRight.2.1 49 = .ok (.iadd, 1) := by decide +kernel
theorem dc_Mo_isRight_50 : decode M_Mo_isRight.2.1 50 = .ok (.iaload, 1) := by decide +kernel
theorem dc_Mo_isRight_51 : decode M_Mo_isRight.2.1 51 = .ok (.if_icmp .ne 7, 3) := by decide +kernel
theorem dc_Mo_isRight_54 : decode M_Mo_isRight.2.1 54 = .ok (.iconst 1, 1) := by decide +kernel
theorem dc_Mo_isRight_55 : decode M_Mo_isRight.2.1 55 = .ok (.goto 4, 3) := by decide +kernel
theorem dc_Mo_isRight_58 : decode M_Mo_isRight.2.1 58 = .ok (.iconst 0, 1) := by decide +kernel
theorem dc_Mo_isRight_59 : decode M_Mo_isRight.2.1 59 = .ok (.istore 4, 2) := by decide +kernel
theorem dc_Mo_isRight_61 : decode M_Mo_isRight.2.1 61 = .ok (.iinc 5 1, 3) := by decide +kernel
theorem dc_Mo_isRight_64 : decode M_Mo_isRight.2.1 64 = .ok (.goto (-51), 3) := by decide +kernel
theorem dc_Mo_repair_0 : decode M_Mo_repair.2.1 0 = .ok (.aload_n 0, 1) := by decide +kernel
theorem dc_Mo_repair_1 : decode M_Mo_repair.2.1 1 = .ok (.aload_n 0, 1) := by decide +kernel
theorem dc_Mo_repair_2 : decode M_Mo_repair.2.1 2 = .ok (.iload_n 1, 1) := by decide +kernel
theorem dc_Mo_repair_3 : decode M_Mo_repair.2.1 3 = .ok (.invokevirtual 120, 3) := by decide +kernel
theorem dc_Mo_repair_6 : decode M_Mo_repair.2.1 6 = .ok (.ifCond .ne 7, 3) := by decide +kernel
theorem dc_Mo_repair_13 : decode M_Mo_repair.2.1 13 = .ok (.aload_n 0, 1) := by decide +kernel
theorem dc_Mo_repair_14 : decode M_Mo_repair.2.1 14 = .ok (.getfield 24, 3) := by decide +kernel
theorem dc_Mo_repair_17 : decode M_Mo_repair.2.1 17 = .ok (.iload_n 1, 1) := by decide +kernel
theorem dc_Mo_repair_18 : decode M_Mo_repair.2.1 18 = .ok (.baload, 1) := by decide +kernel
theorem dc_Mo_repair_19 : decode M_Mo_repair.2.1 19 = .ok (.ifCond .ne 12, 3) := by decide +kernel
theorem dc_Mo_repair_22 : decode M_Mo_repair.2.1 22 = .ok (.aload_n 0, 1) := by decide +kernel
theorem dc_Mo_repair_23 : decode M_Mo_repair.2.1 23 = .ok (.getfield 20, 3) := by decide +kernel
theorem dc_Mo_repair_26 : decode M_Mo_repair.2.1 26 = .ok (.iload_n 1, 1) := by decide +kernel
theorem dc_Mo_repair_27 : decode M_Mo_repair.2.1 27 = .ok (.baload, 1) := by decide +kernel
theorem dc_Mo_repair_28 : decode M_Mo_repair.2.1 28 = .ok (.ifCond .ne 7, 3) := by decide +kernel
theorem dc_Mo_repair_35 : decode M_Mo_repair.2.1 35 = .ok (.iconst 0, 1) := by decide +kernel
theorem dc_Mo_repair_9 : decode M_Mo_repair.2.1 9 = .ok (.iconst 1, 1) := by decide +kernel
theorem dc_Mo_repair_10 : decode M_Mo_repair.2.1 10 = .ok (.goto 26, 3) := by decide +kernel
theorem dc_Mo_repair_31 : decode M_Mo_repair.2.1 31 = .ok (.iconst 2, 1) := by decide +kernel
theorem dc_Mo_repair_32 : decode M_Mo_repair.2.1 32 = .ok (.goto 4, 3) := by decide +kernel
theorem dc_Mo_repair_36 : decode M_Mo_repair.2.1 36 = .ok (.invokevirtual 132, 3) := by decide +kernel
theorem dc_Mo_repair_39 : decode M_Mo_repair.2.1 39 = .ok (.ifCond .eq 5, 3) := by decide +kernel
theorem dc_Mo_repair_44 : decode M_Mo_repair.2.1 44 = .ok (.iconst 0, 1) := by decide +kernel
theorem dc_Mo_repair_45 : decode M_Mo_repair.2.1 45 = .ok (.istore_n 2, 1) := by decide +kernel
theorem dc_Mo_repair_46 : decode M_Mo_repair.2.1 46 = .ok (.bipush 40, 2) := by decide +kernel
theorem dc_Mo_repair_48 : decode M_Mo_repair.2.1 48 = .ok (.iload_n 1, 1) := by decide +kernel
theorem dc_Mo_repair_49 : decode M_Mo_repair.2.1 49 = .ok (.imul, 1) := by decide +kernel
theorem dc_Mo_repair_50 : decode M_Mo_repair.2.1 50 = .ok (.istore_n 3, 1) := by decide +kernel
theorem dc_Mo_repair_42 : decode M_Mo_repair.2.1 42 = .ok (.iconst 0, 1) := by decide +kernel
theorem dc_Mo_repair_43 : decode M_Mo_repair.2.1 43 = .ok (.ireturn, 1) := by decide +kernel
theorem dc_Mo_repair_51 : decode M_Mo_repair.2.1 51 = .ok (.iload_n 3, 1) := by decide +kernel
theorem dc_Mo_repair_52 : decode M_Mo_repair.2.1 52 = .ok (.bipush 40, 2) := by decide +kernel
theorem dc_Mo_repair_54 : decode M_Mo_repair.2.1 54 = .ok (.iload_n 1, 1) := by decide +kernel
theorem dc_Mo_repair_55 : decode M_Mo_repair.2.1 55 = .ok (.imul, 1) := by decide +kernel
theorem dc_Mo_repair_56 : decode M_Mo_repair.2.1 56 = .ok (.aload_n 0, 1) := by decide +kernel
theorem dc_Mo_repair_57 : decode M_Mo_repair.2.1 57 = .ok (.getfield 63, 3) := by decide +kernel
theorem dc_Mo_repair_60 : decode M_Mo_repair.2.1 60 = .ok (.iload_n 1, 1) := by decide +kernel
theorem dc_Mo_repair_61 : decode M_Mo_repair.2.1 61 = .ok (.iaload, 1) := by decide +kernel
theorem dc_Mo_repair_62 : decode M_Mo_repair.2.1 62 = .ok (.iadd, 1) := by decide +kernel
theorem dc_Mo_repair_63 : decode M_Mo_repair.2.1 63 = .ok (.if_icmp .ge 27, 3) := by decide +kernel
theorem dc_Mo_repair_90 : decode M_Mo_repair.2.1 90 = .ok (.iload_n 2, 1) := by decide +kernel
theorem dc_Mo_repair_91 : decode M_Mo_repair.2.1 91 = .ok (.ireturn, 1) := by decide +kernel
theorem dc_Mo_repair_66 : decode M_Mo_repair.2.1 66 = .ok (.aload_n 0, 1) := by decide +kernel
theorem dc_Mo_repair_67 : decode M_Mo_repair.2.1 67 = .ok (.getfield 66, 3) := by decide +kernel
theorem dc_Mo_repair_70 : decode M_Mo_repair.2.1 70 = .ok (.iload_n 3, 1) := by decide +kernel
theorem dc_Mo_repair_71 : decode M_Mo_repair.2.1 71 = .ok (.baload, 1) := by decide +kernel
theorem dc_Mo_repair_72 : decode M_Mo_repair.2.1 72 = .ok (.ifCond .ne 12, 3) := by decide +kernel
theorem dc_Mo_repair_75 : decode M_Mo_repair.2.1 75 = .ok (.iload_n 2, 1) := by decide +kernel
theorem dc_Mo_repair_76 : decode M_Mo_repair.2.1 76 = .ok (.aload_n 0, 1) := by decide +kernel
theorem dc_Mo_repair_77 : decode M_Mo_repair.2.1 77 = .ok (.iload_n 1, 1) := by decide +kernel
theorem dc_Mo_repair_78 : decode M_Mo_repair.2.1 78 = .ok (.iload_n 3, 1) := by decide +kernel
theorem dc_Mo_repair_79 : decode M_Mo_repair.2.1 79 = .ok (.invokevirtual 220, 3) := by decide +kernel
theorem km_9_220 : rM 9 220 = some (1, M_Mo_repairOne) := rM_at (j := 169) (p := 1238) (by decide +kernel) rfl
theorem np_Mo_repairOne : nP M_Mo_repairOne = 2 := by decide +kernel
theorem dc_Mo_repair_82 : decode M_Mo_repair.2.1 82 = .ok (.iadd, 1) := by decide +kernel
theorem dc_Mo_repair_83 : decode M_Mo_repair.2.1 83 = .ok (.istore_n 2, 1) := by decide +kernel
theorem dc_Mo_repair_84 : decode M_Mo_repair.2.1 84 = .ok (.iinc 3 1, 3) := by decide +kernel
theorem dc_Mo_repair_87 : decode M_Mo_repair.2.1 87 = .ok (.goto (-36), 3) := by decide +kernel
theorem dc_Mo_repairOne_0 : decode M_Mo_repairOne.2.1 0 = .ok (.aload_n 0, 1) := by decide +kernel
theorem dc_Mo_repairOne_1 : decode M_Mo_repairOne.2.1 1 = .ok (.getfield 69, 3) := by decide +kernel
theorem dc_Mo_repairOne_4 : decode M_Mo_repairOne.2.1 4 = .ok (.iload_n 2, 1) := by decide +kernel
theorem dc_Mo_repairOne_5 : decode M_Mo_repairOne.2.1 5 = .ok (.baload, 1) := by decide +kernel
theorem dc_Mo_repairOne_6 : decode M_Mo_repairOne.2.1 6 = .ok (.ifCond .ne 58, 3) := by decide +kernel
theorem dc_Mo_repairOne_9 : decode M_Mo_repairOne.2.1 9 = .ok (.aload_n 0, 1) := by decide +kernel
theorem dc_Mo_repairOne_10 : decode M_Mo_repairOne.2.1 10 = .ok (.iload_n 2, 1) := by decide +kernel
theorem dc_Mo_repairOne_11 : decode M_Mo_repairOne.2.1 11 = .ok (.invokevirtual 223, 3) := by decide +kernel
theorem km_9_223 : rM 9 223 = some (1, M_Mo_reachable) := rM_at (j := 170) (p := 1242) (by decide +kernel) rfl
theorem np_Mo_reachable : nP M_Mo_reachable = 1 := by decide +kernel
theorem dc_Mo_repairOne_14 : decode M_Mo_repairOne.2.1 14 = .ok (.aload_n 0, 1) := by decide +kernel
theorem dc_Mo_repairOne_15 : decode M_Mo_repairOne.2.1 15 = .ok (.getfield 7, 3) := by decide +kernel
theorem dc_Mo_repairOne_18 : decode M_Mo_repairOne.2.1 18 = .ok (.if_icmp .lt 46, 3) := by decide +kernel
theorem dc_Mo_repairOne_21 : decode M_Mo_repairOne.2.1 21 = .ok (.aload_n 0, 1) := by decide +kernel
theorem dc_Mo_repairOne_22 : decode M_Mo_repairOne.2.1 22 = .ok (.iload_n 2, 1) := by decide +kernel
theorem dc_Mo_repairOne_23 : decode M_Mo_repairOne.2.1 23 = .ok (.invokevirtual 226, 3) := by decide +kernel
theorem km_9_226 : rM 9 226 = some (1, M_Mo_solve) := rM_at (j := 171) (p := 1246) (by decide +kernel) rfl
theorem np_Mo_solve : nP M_Mo_solve = 1 := by decide +kernel
theorem dc_Mo_repairOne_26 : decode M_Mo_repairOne.2.1 26 = .ok (.iconst 0, 1) := by decide +kernel
theorem dc_Mo_repairOne_27 : decode M_Mo_repairOne.2.1 27 = .ok (.istore_n 3, 1) := by decide +kernel
theorem dc_Mo_repairOne_28 : decode M_Mo_repairOne.2.1 28 = .ok (.iload_n 3, 1) := by decide +kernel
theorem dc_Mo_repairOne_29 : decode M_Mo_repairOne.2.1 29 = .ok (.bipush 60, 2) := by decide +kernel
theorem dc_Mo_repairOne_31 : decode M_Mo_repairOne.2.1 31 = .ok (.if_icmp .ge 26, 3) := by decide +kernel
theorem dc_Mo_repairOne_57 : decode M_Mo_repairOne.2.1 57 = .ok (.aload_n 0, 1) := by decide +kernel
theorem dc_Mo_repairOne_58 : decode M_Mo_repairOne.2.1 58 = .ok (.getfield 69, 3) := by decide +kernel
theorem dc_Mo_repairOne_61 : decode M_Mo_repairOne.2.1 61 = .ok (.iload_n 2, 1) := by decide +kernel
theorem dc_Mo_repairOne_62 : decode M_Mo_repairOne.2.1 62 = .ok (.iconst 1, 1) := by decide +kernel
theorem dc_Mo_repairOne_63 : decode M_Mo_repairOne.2.1 63 = .ok (.bastore, 1) := by decide +kernel
theorem dc_Mo_repairOne_34 : decode M_Mo_repairOne.2.1 34 = .ok (.aload_n 0, 1) := by decide +kernel
theorem dc_Mo_repairOne_35 : decode M_Mo_repairOne.2.1 35 = .ok (.getfield 75, 3) := by decide +kernel
theorem dc_Mo_repairOne_38 : decode M_Mo_repairOne.2.1 38 = .ok (.bipush 60, 2) := by decide +kernel
theorem dc_Mo_repairOne_40 : decode M_Mo_repairOne.2.1 40 = .ok (.iload_n 2, 1) := by decide +kernel
theorem dc_Mo_repairOne_41 : decode M_Mo_repairOne.2.1 41 = .ok (.imul, 1) := by decide +kernel
theorem dc_Mo_repairOne_42 : decode M_Mo_repairOne.2.1 42 = .ok (.iload_n 3, 1) := by decide +kernel
theorem dc_Mo_repairOne_43 : decode M_Mo_repairOne.2.1 43 = .ok (.iadd, 1) := by decide +kernel
theorem dc_Mo_repairOne_44 : decode M_Mo_repairOne.2.1 44 = .ok (.aload_n 0, 1) := by decide +kernel
theorem dc_Mo_repairOne_45 : decode M_Mo_repairOne.2.1 45 = .ok (.getfield 101, 3) := by decide +kernel
theorem dc_Mo_repairOne_48 : decode M_Mo_repairOne.2.1 48 = .ok (.iload_n 3, 1) := by decide +kernel
theorem dc_Mo_repairOne_49 : decode M_Mo_repairOne.2.1 49 = .ok (.iaload, 1) := by decide +kernel
theorem dc_Mo_repairOne_50 : decode M_Mo_repairOne.2.1 50 = .ok (.iastore, 1) := by decide +kernel
theorem dc_Mo_repairOne_51 : decode M_Mo_repairOne.2.1 51 = .ok (.iinc 3 1, 3) := by decide +kernel
theorem dc_Mo_repairOne_54 : decode M_Mo_repairOne.2.1 54 = .ok (.goto (-26), 3) := by decide +kernel
theorem dc_Mo_repairOne_64 : decode M_Mo_repairOne.2.1 64 = .ok (.aload_n 0, 1) := by decide +kernel
theorem dc_Mo_repairOne_65 : decode M_Mo_repairOne.2.1 65 = .ok (.getfield 69, 3) := by decide +kernel
theorem dc_Mo_repairOne_68 : decode M_Mo_repairOne.2.1 68 = .ok (.iload_n 2, 1) := by decide +kernel
theorem dc_Mo_repairOne_69 : decode M_Mo_repairOne.2.1 69 = .ok (.baload, 1) := by decide +kernel
theorem dc_Mo_repairOne_70 : decode M_Mo_repairOne.2.1 70 = .ok (.ifCond .ne 5, 3) := by decide +kernel
theorem dc_Mo_repairOne_75 : decode M_Mo_repairOne.2.1 75 = .ok (.bipush 12, 2) := by decide +kernel
theorem dc_Mo_repairOne_77 : decode M_Mo_repairOne.2.1 77 = .ok (.iload_n 2, 1) := by decide +kernel
theorem dc_Mo_repairOne_78 : decode M_Mo_repairOne.2.1 78 = .ok (.imul, 1) := by decide +kernel
theorem dc_Mo_repairOne_79 : decode M_Mo_repairOne.2.1 79 = .ok (.istore_n 3, 1) := by decide +kernel
theorem dc_Mo_repairOne_73 : decode M_Mo_repairOne.2.1 73 = .ok (.iconst 0, 1) := by decide +kernel
theorem dc_Mo_repairOne_74 : decode M_Mo_repairOne.2.1 74 = .ok (.ireturn, 1) := by decide +kernel
theorem dc_Mo_repairOne_80 : decode M_Mo_repairOne.2.1 80 = .ok (.iload_n 3, 1) := by decide +kernel
theorem dc_Mo_repairOne_81 : decode M_Mo_repairOne.2.1 81 = .ok (.bipush 12, 2) := by decide +kernel
theorem dc_Mo_repairOne_83 : decode M_Mo_repairOne.2.1 83 = .ok (.iload_n 2, 1) := by decide +kernel
theorem dc_Mo_repairOne_84 : decode M_Mo_repairOne.2.1 84 = .ok (.imul, 1) := by decide +kernel
theorem dc_Mo_repairOne_85 : decode M_Mo_repairOne.2.1 85 = .ok (.aload_n 0, 1) := by decide +kernel
theorem dc_Mo_repairOne_86 : decode M_Mo_repairOne.2.1 86 = .ok (.getfield 13, 3) := by decide +kernel
theorem dc_Mo_repairOne_89 : decode M_Mo_repairOne.2.1 89 = .ok (.iadd, 1) := by decide +kernel
theorem dc_Mo_repairOne_90 : decode M_Mo_repairOne.2.1 90 = .ok (.if_icmp .ge 48, 3) := by decide +kernel
theorem dc_Mo_repairOne_138 : decode M_Mo_repairOne.2.1 138 = .ok (.aload_n 0, 1) := by decide +kernel
theorem dc_Mo_repairOne_139 : decode M_Mo_repairOne.2.1 139 = .ok (.iload_n 1, 1) := by decide +kernel
theorem dc_Mo_repairOne_140 : decode M_Mo_repairOne.2.1 140 = .ok (.iload_n 2, 1) := by decide +kernel
theorem dc_Mo_repairOne_141 : decode M_Mo_repairOne.2.1 141 = .ok (.invokevirtual 206, 3) := by decide +kernel
theorem dc_Mo_repairOne_93 : decode M_Mo_repairOne.2.1 93 = .ok (.aload_n 0, 1) := by decide +kernel
theorem dc_Mo_repairOne_94 : decode M_Mo_repairOne.2.1 94 = .ok (.getfield 78, 3) := by decide +kernel
theorem dc_Mo_repairOne_97 : decode M_Mo_repairOne.2.1 97 = .ok (.iload_n 3, 1) := by decide +kernel
theorem dc_Mo_repairOne_98 : decode M_Mo_repairOne.2.1 98 = .ok (.iaload, 1) := by decide +kernel
theorem dc_Mo_repairOne_99 : decode M_Mo_repairOne.2.1 99 = .ok (.ifCond .lt 33, 3) := by decide +kernel
theorem dc_Mo_repairOne_102 : decode M_Mo_repairOne.2.1 102 = .ok (.aload_n 0, 1) := by decide +kernel
theorem dc_Mo_repairOne_103 : decode M_Mo_repairOne.2.1 103 = .ok (.getfield 20, 3) := by decide +kernel
theorem dc_Mo_repairOne_106 : decode M_Mo_repairOne.2.1 106 = .ok (.aload_n 0, 1) := by decide +kernel
theorem dc_Mo_repairOne_107 : decode M_Mo_repairOne.2.1 107 = .ok (.getfield 78, 3) := by decide +kernel
theorem dc_Mo_repairOne_110 : decode M_Mo_repairOne.2.1 110 = .ok (.iload_n 3, 1) := by decide +kernel
theorem dc_Mo_repairOne_111 : decode M_Mo_repairOne.2.1 111 = .ok (.iaload, 1) := by decide +kernel
theorem dc_Mo_repairOne_112 : decode M_Mo_repairOne.2.1 112 = .ok (.baload, 1) := by decide +kernel
theorem dc_Mo_repairOne_113 : decode M_Mo_repairOne.2.1 113 = .ok (.ifCond .eq 19, 3) := by decide +kernel
theorem dc_Mo_repairOne_116 : decode M_Mo_repairOne.2.1 116 = .ok (.aload_n 0, 1) := by decide +kernel
theorem dc_Mo_repairOne_117 : decode M_Mo_repairOne.2.1 117 = .ok (.getfield 81, 3) := by decide +kernel
theorem dc_Mo_repairOne_120 : decode M_Mo_repairOne.2.1 120 = .ok (.iload_n 3, 1) := by decide +kernel
theorem dc_Mo_repairOne_121 : decode M_Mo_repairOne.2.1 121 = .ok (.baload, 1) := by decide +kernel
theorem dc_Mo_repairOne_122 : decode M_Mo_repairOne.2.1 122 = .ok (.ifCond .ne 10, 3) := by decide +kernel
theorem dc_Mo_repairOne_125 : decode M_Mo_repairOne.2.1 125 = .ok (.aload_n 0, 1) := by decide +kernel
theorem dc_Mo_repairOne_126 : decode M_Mo_repairOne.2.1 126 = .ok (.getfield 78, 3) := by decide +kernel
theorem dc_Mo_repairOne_129 : decode M_Mo_repairOne.2.1 129 = .ok (.iload_n 3, 1) := by decide +kernel
theorem dc_Mo_repairOne_130 : decode M_Mo_repairOne.2.1 130 = .ok (.iconst (-1), 1) := by decide +kernel
theorem dc_Mo_repairOne_131 : decode M_Mo_repairOne.2.1 131 = .ok (.iastore, 1) := by decide +kernel
theorem dc_Mo_repairOne_132 : decode M_Mo_repairOne.2.1 132 = .ok (.iinc 3 1, 3) := by decide +kernel
theorem dc_Mo_repairOne_135 : decode M_Mo_repairOne.2.1 135 = .ok (.goto (-55), 3) := by decide +kernel
theorem dc_Mo_repairOne_144 : decode M_Mo_repairOne.2.1 144 = .ok (.ireturn, 1) := by decide +kernel
theorem dc_Mo_reachable_0 : decode M_Mo_reachable.2.1 0 = .ok (.iconst 0, 1) := by decide +kernel
theorem dc_Mo_reachable_1 : decode M_Mo_reachable.2.1 1 = .ok (.istore_n 2, 1) := by decide +kernel
theorem dc_Mo_reachable_2 : decode M_Mo_reachable.2.1 2 = .ok (.iconst 0, 1) := by decide +kernel
theorem dc_Mo_reachable_3 : decode M_Mo_reachable.2.1 3 = .ok (.istore_n 3, 1) := by decide +kernel
theorem dc_Mo_reachable_4 : decode M_Mo_reachable.2.1 4 = .ok (.iload_n 3, 1) := by decide +kernel
theorem dc_Mo_reachable_5 : decode M_Mo_reachable.2.1 5 = .ok (.aload_n 0, 1) := by decide +kernel
theorem dc_Mo_reachable_6 : decode M_Mo_reachable.2.1 6 = .ok (.getfield 13, 3) := by decide +kernel
theorem dc_Mo_reachable_9 : decode M_Mo_reachable.2.1 9 = .ok (.if_icmp .ge 30, 3) := by decide +kernel
theorem dc_Mo_reachable_39 : decode M_Mo_reachable.2.1 39 = .ok (.iload_n 2, 1) := by decide +kernel
theorem dc_Mo_reachable_40 : decode M_Mo_reachable.2.1 40 = .ok (.ireturn, 1) := by decide +kernel
theorem dc_Mo_reachable_12 : decode M_Mo_reachable.2.1 12 = .ok (.aload_n 0, 1) := by decide +kernel
theorem dc_Mo_reachable_13 : decode M_Mo_reachable.2.1 13 = .ok (.bipush 12, 2) := by decide +kernel
theorem dc_Mo_reachable_15 : decode M_Mo_reachable.2.1 15 = .ok (.iload_n 1, 1) := by decide +kernel
theorem dc_Mo_reachable_16 : decode M_Mo_reachable.2.1 16 = .ok (.imul, 1) := by decide +kernel
theorem dc_Mo_reachable_17 : decode M_Mo_reachable.2.1 17 = .ok (.iload_n 3, 1) := by decide +kernel
theorem dc_Mo_reachable_18 : decode M_Mo_reachable.2.1 18 = .ok (.iadd, 1) := by decide +kernel
theorem dc_Mo_reachable_19 : decode M_Mo_reachable.2.1 19 = .ok (.invokevirtual 173, 3) := by decide +kernel
theorem dc_Mo_reachable_22 : decode M_Mo_reachable.2.1 22 = .ok (.ifCond .eq 9, 3) := by decide +kernel
theorem dc_Mo_reachable_31 : decode M_Mo_reachable.2.1 31 = .ok (.iload_n 2, 1) := by decide +kernel
theorem dc_Mo_reachable_25 : decode M_Mo_reachable.2.1 25 = .ok (.iload_n 2, 1) := by decide +kernel
theorem dc_Mo_reachable_26 : decode M_Mo_reachable.2.1 26 = .ok (.iconst 1, 1) := by decide +kernel
theorem dc_Mo_reachable_27 : decode M_Mo_reachable.2.1 27 = .ok (.iadd, 1) := by decide +kernel
theorem dc_Mo_reachable_28 : decode M_Mo_reachable.2.1 28 = .ok (.goto 4, 3) := by decide +kernel
theorem dc_Mo_reachable_32 : decode M_Mo_reachable.2.1 32 = .ok (.istore_n 2, 1) := by decide +kernel
theorem dc_Mo_reachable_33 : decode M_Mo_reachable.2.1 33 = .ok (.iinc 3 1, 3) := by decide +kernel
theorem dc_Mo_reachable_36 : decode M_Mo_reachable.2.1 36 = .ok (.goto (-32), 3) := by decide +kernel
theorem dc_Mo_solve_0 : decode M_Mo_solve.2.1 0 = .ok (.aload_n 0, 1) := by decide +kernel
theorem dc_Mo_solve_1 : decode M_Mo_solve.2.1 1 = .ok (.invokevirtual 166, 3) := by decide +kernel
theorem dc_Mo_solve_4 : decode M_Mo_solve.2.1 4 = .ok (.istore_n 2, 1) := by decide +kernel
theorem dc_Mo_solve_5 : decode M_Mo_solve.2.1 5 = .ok (.iconst 0, 1) := by decide +kernel
theorem dc_Mo_solve_6 : decode M_Mo_solve.2.1 6 = .ok (.istore_n 3, 1) := by decide +kernel
theorem dc_Mo_solve_7 : decode M_Mo_solve.2.1 7 = .ok (.iconst 0, 1) := by decide +kernel
theorem dc_Mo_solve_8 : decode M_Mo_solve.2.1 8 = .ok (.istore 4, 2) := by decide +kernel
theorem dc_Mo_solve_10 : decode M_Mo_solve.2.1 10 = .ok (.iload 4, 2) := by decide +kernel
theorem dc_Mo_solve_12 : decode M_Mo_solve.2.1 12 = .ok (.aload_n 0, 1) := by decide +kernel
theorem dc_Mo_solve_13 : decode M_Mo_solve.2.1 13 = .ok (.getfield 13, 3) := by decide +kernel
theorem dc_Mo_solve_16 : decode M_Mo_solve.2.1 16 = .ok (.if_icmp .ge 116, 3) := by decide +kernel
theorem dc_Mo_solve_19 : decode M_Mo_solve.2.1 19 = .ok (.iload_n 3, 1) := by decide +kernel
theorem dc_Mo_solve_20 : decode M_Mo_solve.2.1 20 = .ok (.aload_n 0, 1) := by decide +kernel
theorem dc_Mo_solve_21 : decode M_Mo_solve.2.1 21 = .ok (.getfield 7, 3) := by decide +kernel
theorem dc_Mo_solve_24 : decode M_Mo_solve.2.1 24 = .ok (.if_icmp .ge 108, 3) := by decide +kernel
theorem dc_Mo_solve_27 : decode M_Mo_solve.2.1 27 = .ok (.aload_n 0, 1) := by decide +kernel
theorem dc_Mo_solve_28 : decode M_Mo_solve.2.1 28 = .ok (.bipush 12, 2) := by decide +kernel
theorem dc_Mo_solve_30 : decode M_Mo_solve.2.1 30 = .ok (.iload_n 1, 1) := by decide +kernel
theorem dc_Mo_solve_31 : decode M_Mo_solve.2.1 31 = .ok (.imul, 1) := by decide +kernel
theorem dc_Mo_solve_32 : decode M_Mo_solve.2.1 32 = .ok (.iload 4, 2) := by decide +kernel
theorem dc_Mo_solve_34 : decode M_Mo_solve.2.1 34 = .ok (.iadd, 1) := by decide +kernel
theorem dc_Mo_solve_35 : decode M_Mo_solve.2.1 35 = .ok (.invokevirtual 173, 3) := by decide +kernel
theorem dc_Mo_solve_38 : decode M_Mo_solve.2.1 38 = .ok (.ifCond .eq 88, 3) := by decide +kernel
theorem dc_Mo_solve_41 : decode M_Mo_solve.2.1 41 = .ok (.iconst 0, 1) := by decide +kernel
theorem dc_Mo_solve_42 : decode M_Mo_solve.2.1 42 = .ok (.istore 5, 2) := by decide +kernel
theorem dc_Mo_solve_44 : decode M_Mo_solve.2.1 44 = .ok (.iload 5, 2) := by decide +kernel
theorem dc_Mo_solve_46 : decode M_Mo_solve.2.1 46 = .ok (.aload_n 0, 1) := by decide +kernel
theorem dc_Mo_solve_47 : decode M_Mo_solve.2.1 47 = .ok (.getfield 7, 3) := by decide +kernel
theorem dc_Mo_solve_50 : decode M_Mo_solve.2.1 50 = .ok (.if_icmp .ge 28, 3) := by decide +kernel
theorem dc_Mo_solve_78 : decode M_Mo_solve.2.1 78 = .ok (.iconst 0, 1) := by decide +kernel
theorem dc_Mo_solve_79 : decode M_Mo_solve.2.1 79 = .ok (.istore 5, 2) := by decide +kernel
theorem dc_Mo_solve_53 : decode M_Mo_solve.2.1 53 = .ok (.aload_n 0, 1) := by decide +kernel
theorem dc_Mo_solve_54 : decode M_Mo_solve.2.1 54 = .ok (.getfield 98, 3) := by decide +kernel
theorem dc_Mo_solve_57 : decode M_Mo_solve.2.1 57 = .ok (.bipush 6, 2) := by decide +kernel
theorem dc_Mo_solve_59 : decode M_Mo_solve.2.1 59 = .ok (.iload_n 3, 1) := by decide +kernel
theorem dc_Mo_solve_60 : decode M_Mo_solve.2.1 60 = .ok (.imul, 1) := by decide +kernel
theorem dc_Mo_solve_61 : decode M_Mo_solve.2.1 61 = .ok (.iload 5, 2) := by decide +kernel
theorem dc_Mo_solve_63 : decode M_Mo_solve.2.1 63 = .ok (.iadd, 1) := by decide +kernel
theorem dc_Mo_solve_64 : decode M_Mo_solve.2.1 64 = .ok (.iload 4, 2) := by decide +kernel
theorem dc_Mo_solve_66 : decode M_Mo_solve.2.1 66 = .ok (.iload 5, 2) := by decide +kernel
theorem dc_Mo_solve_68 : decode M_Mo_solve.2.1 68 = .ok (.invokestatic 170, 3) := by decide +kernel
theorem dc_Mo_solve_71 : decode M_Mo_solve.2.1 71 = .ok (.iastore, 1) := by decide +kernel
theorem dc_Mo_solve_72 : decode M_Mo_solve.2.1 72 = .ok (.iinc 5 1, 3) := by decide +kernel
theorem dc_Mo_solve_75 : decode M_Mo_solve.2.1 75 = .ok (.goto (-31), 3) := by decide +kernel
theorem dc_Mo_solve_81 : decode M_Mo_solve.2.1 81 = .ok (.iload 5, 2) := by decide +kernel
theorem dc_Mo_solve_83 : decode M_Mo_solve.2.1 83 = .ok (.iload_n 2, 1) := by decide +kernel
theorem dc_Mo_solve_84 : decode M_Mo_solve.2.1 84 = .ok (.if_icmp .ge 39, 3) := by decide +kernel
theorem dc_Mo_solve_123 : decode M_Mo_solve.2.1 123 = .ok (.iinc 3 1, 3) := by decide +kernel
theorem dc_Mo_solve_87 : decode M_Mo_solve.2.1 87 = .ok (.aload_n 0, 1) := by decide +kernel
theorem dc_Mo_solve_88 : decode M_Mo_solve.2.1 88 = .ok (.getfield 104, 3) := by decide +kernel
theorem dc_Mo_solve_91 : decode M_Mo_solve.2.1 91 = .ok (.bipush 30, 2) := by decide +kernel
theorem dc_Mo_solve_93 : decode M_Mo_solve.2.1 93 = .ok (.iload_n 3, 1) := by decide +kernel
theorem dc_Mo_solve_94 : decode M_Mo_solve.2.1 94 = .ok (.imul, 1) := by decide +kernel
theorem dc_Mo_solve_95 : decode M_Mo_solve.2.1 95 = .ok (.iload 5, 2) := by decide +kernel
theorem dc_Mo_solve_97 : decode M_Mo_solve.2.1 97 = .ok (.iadd, 1) := by decide +kernel
theorem dc_Mo_solve_98 : decode M_Mo_solve.2.1 98 = .ok (.aload_n 0, 1) := by decide +kernel
theorem dc_Mo_solve_99 : decode M_Mo_solve.2.1 99 = .ok (.getfield 85, 3) := by decide +kernel
theorem dc_Mo_solve_102 : decode M_Mo_solve.2.1 102 = .ok (.bipush 30, 2) := by decide +kernel
theorem dc_Mo_solve_104 : decode M_Mo_solve.2.1 104 = .ok (.bipush 12, 2) := by decide +kernel
theorem dc_Mo_solve_106 : decode M_Mo_solve.2.1 106 = .ok (.iload_n 1, 1) := by decide +kernel
theorem dc_Mo_solve_107 : decode M_Mo_solve.2.1 107 = .ok (.imul, 1) := by decide +kernel
theorem dc_Mo_solve_108 : decode M_Mo_solve.2.1 108 = .ok (.iload 4, 2) := by decide +kernel
theorem dc_Mo_solve_110 : decode M_Mo_solve.2.1 110 = .ok (.iadd, 1) := by decide +kernel
theorem dc_Mo_solve_111 : decode M_Mo_solve.2.1 111 = .ok (.imul, 1) := by decide +kernel
theorem dc_Mo_solve_112 : decode M_Mo_solve.2.1 112 = .ok (.iload 5, 2) := by decide +kernel
theorem dc_Mo_solve_114 : decode M_Mo_solve.2.1 114 = .ok (.iadd, 1) := by decide +kernel
theorem dc_Mo_solve_115 : decode M_Mo_solve.2.1 115 = .ok (.iaload, 1) := by decide +kernel
theorem dc_Mo_solve_116 : decode M_Mo_solve.2.1 116 = .ok (.iastore, 1) := by decide +kernel
theorem dc_Mo_solve_117 : decode M_Mo_solve.2.1 117 = .ok (.iinc 5 1, 3) := by decide +kernel
theorem dc_Mo_solve_120 : decode M_Mo_solve.2.1 120 = .ok (.goto (-39), 3) := by decide +kernel
theorem dc_Mo_solve_126 : decode M_Mo_solve.2.1 126 = .ok (.iinc 4 1, 3) := by decide +kernel
theorem dc_Mo_solve_129 : decode M_Mo_solve.2.1 129 = .ok (.goto (-119), 3) := by decide +kernel
theorem dc_Mo_solve_132 : decode M_Mo_solve.2.1 132 = .ok (.iconst 0, 1) := by decide +kernel
theorem dc_Mo_solve_133 : decode M_Mo_solve.2.1 133 = .ok (.istore 4, 2) := by decide +kernel
theorem dc_Mo_solve_135 : decode M_Mo_solve.2.1 135 = .ok (.iload 4, 2) := by decide +kernel
theorem dc_Mo_solve_137 : decode M_Mo_solve.2.1 137 = .ok (.aload_n 0, 1) := by decide +kernel
theorem dc_Mo_solve_138 : decode M_Mo_solve.2.1 138 = .ok (.getfield 7, 3) := by decide +kernel
theorem dc_Mo_solve_141 : decode M_Mo_solve.2.1 141 = .ok (.if_icmp .ge 118, 3) := by decide +kernel
theorem dc_Mo_solve_259 : decode M_Mo_solve.2.1 259 = .ok (.iconst 0, 1) := by decide +kernel
theorem dc_Mo_solve_260 : decode M_Mo_solve.2.1 260 = .ok (.istore 4, 2) := by decide +kernel
theorem dc_Mo_solve_144 : decode M_Mo_solve.2.1 144 = .ok (.iload 4, 2) := by decide +kernel
theorem dc_Mo_solve_146 : decode M_Mo_solve.2.1 146 = .ok (.istore 5, 2) := by decide +kernel
theorem dc_Mo_solve_148 : decode M_Mo_solve.2.1 148 = .ok (.aload_n 0, 1) := by decide +kernel
theorem dc_Mo_solve_149 : decode M_Mo_solve.2.1 149 = .ok (.getfield 98, 3) := by decide +kernel
theorem dc_Mo_solve_152 : decode M_Mo_solve.2.1 152 = .ok (.bipush 6, 2) := by decide +kernel
theorem dc_Mo_solve_154 : decode M_Mo_solve.2.1 154 = .ok (.iload 5, 2) := by decide +kernel
theorem dc_Mo_solve_156 : decode M_Mo_solve.2.1 156 = .ok (.imul, 1) := by decide +kernel
theorem dc_Mo_solve_157 : decode M_Mo_solve.2.1 157 = .ok (.iload 4, 2) := by decide +kernel
theorem dc_Mo_solve_159 : decode M_Mo_solve.2.1 159 = .ok (.iadd, 1) := by decide +kernel
theorem dc_Mo_solve_160 : decode M_Mo_solve.2.1 160 = .ok (.iaload, 1) := by decide +kernel
theorem dc_Mo_solve_161 : decode M_Mo_solve.2.1 161 = .ok (.ifCond .ne 9, 3) := by decide +kernel
theorem dc_Mo_solve_170 : decode M_Mo_solve.2.1 170 = .ok (.aload_n 0, 1) := by decide +kernel
theorem dc_Mo_solve_171 : decode M_Mo_solve.2.1 171 = .ok (.iload 4, 2) := by decide +kernel
theorem dc_Mo_solve_173 : decode M_Mo_solve.2.1 173 = .ok (.iload 5, 2) := by decide +kernel
theorem dc_Mo_solve_175 : decode M_Mo_solve.2.1 175 = .ok (.iload_n 2, 1) := by decide +kernel
theorem dc_Mo_solve_176 : decode M_Mo_solve.2.1 176 = .ok (.invokevirtual 176, 3) := by decide +kernel
theorem km_9_176 : rM 9 176 = some (1, M_Mo_swap) := rM_at (j := 172) (p := 1250) (by decide +kernel) rfl
theorem np_Mo_swap : nP M_Mo_swap = 3 := by decide +kernel
theorem dc_Mo_solve_164 : decode M_Mo_solve.2.1 164 = .ok (.iinc 5 1, 3) := by decide +kernel
theorem dc_Mo_solve_167 : decode M_Mo_solve.2.1 167 = .ok (.goto (-19), 3) := by decide +kernel
theorem dc_Mo_solve_179 : decode M_Mo_solve.2.1 179 = .ok (.aload_n 0, 1) := by decide +kernel
theorem dc_Mo_solve_180 : decode M_Mo_solve.2.1 180 = .ok (.getfield 98, 3) := by decide +kernel
theorem dc_Mo_solve_183 : decode M_Mo_solve.2.1 183 = .ok (.bipush 6, 2) := by decide +kernel
theorem dc_Mo_solve_185 : decode M_Mo_solve.2.1 185 = .ok (.iload 4, 2) := by decide +kernel
theorem dc_Mo_solve_187 : decode M_Mo_solve.2.1 187 = .ok (.imul, 1) := by decide +kernel
theorem dc_Mo_solve_188 : decode M_Mo_solve.2.1 188 = .ok (.iload 4, 2) := by decide +kernel
theorem dc_Mo_solve_190 : decode M_Mo_solve.2.1 190 = .ok (.iadd, 1) := by decide +kernel
theorem dc_Mo_solve_191 : decode M_Mo_solve.2.1 191 = .ok (.iaload, 1) := by decide +kernel
theorem dc_Mo_solve_192 : decode M_Mo_solve.2.1 192 = .ok (.invokestatic 163, 3) := by decide +kernel
theorem dc_Mo_solve_195 : decode M_Mo_solve.2.1 195 = .ok (.istore 6, 2) := by decide +kernel
theorem dc_Mo_solve_197 : decode M_Mo_solve.2.1 197 = .ok (.aload_n 0, 1) := by decide +kernel
theorem dc_Mo_solve_198 : decode M_Mo_solve.2.1 198 = .ok (.iload 4, 2) := by decide +kernel
theorem dc_Mo_solve_200 : decode M_Mo_solve.2.1 200 = .ok (.iload 6, 2) := by decide +kernel
theorem dc_Mo_solve_202 : decode M_Mo_solve.2.1 202 = .ok (.iload_n 2, 1) := by decide +kernel
theorem dc_Mo_solve_203 : decode M_Mo_solve.2.1 203 = .ok (.invokevirtual 180, 3) := by decide +kernel
theorem km_9_180 : rM 9 180 = some (1, M_Mo_scale) := rM_at (j := 173) (p := 1254) (by decide +kernel) rfl
theorem np_Mo_scale : nP M_Mo_scale = 3 := by decide +kernel
theorem dc_Mo_solve_206 : decode M_Mo_solve.2.1 206 = .ok (.iconst 0, 1) := by decide +kernel
theorem dc_Mo_solve_207 : decode M_Mo_solve.2.1 207 = .ok (.istore 7, 2) := by decide +kernel
theorem dc_Mo_solve_209 : decode M_Mo_solve.2.1 209 = .ok (.iload 7, 2) := by decide +kernel
theorem dc_Mo_solve_211 : decode M_Mo_solve.2.1 211 = .ok (.aload_n 0, 1) := by decide +kernel
theorem dc_Mo_solve_212 : decode M_Mo_solve.2.1 212 = .ok (.getfield 7, 3) := by decide +kernel
theorem dc_Mo_solve_215 : decode M_Mo_solve.2.1 215 = .ok (.if_icmp .ge 38, 3) := by decide +kernel
theorem dc_Mo_solve_253 : decode M_Mo_solve.2.1 253 = .ok (.iinc 4 1, 3) := by decide +kernel
theorem dc_Mo_solve_256 : decode M_Mo_solve.2.1 256 = .ok (.goto (-121), 3) := by decide +kernel
theorem dc_Mo_solve_218 : decode M_Mo_solve.2.1 218 = .ok (.iload 7, 2) := by decide +kernel
theorem dc_Mo_solve_220 : decode M_Mo_solve.2.1 220 = .ok (.iload 4, 2) := by decide +kernel
theorem dc_Mo_solve_222 : decode M_Mo_solve.2.1 222 = .ok (.if_icmp .eq 25, 3) := by decide +kernel
theorem dc_Mo_solve_225 : decode M_Mo_solve.2.1 225 = .ok (.aload_n 0, 1) := by decide +kernel
theorem dc_Mo_solve_226 : decode M_Mo_solve.2.1 226 = .ok (.iload 7, 2) := by decide +kernel
theorem dc_Mo_solve_228 : decode M_Mo_solve.2.1 228 = .ok (.iload 4, 2) := by decide +kernel
theorem dc_Mo_solve_230 : decode M_Mo_solve.2.1 230 = .ok (.aload_n 0, 1) := by decide +kernel
theorem dc_Mo_solve_231 : decode M_Mo_solve.2.1 231 = .ok (.getfield 98, 3) := by decide +kernel
theorem dc_Mo_solve_234 : decode M_Mo_solve.2.1 234 = .ok (.bipush 6, 2) := by decide +kernel
theorem dc_Mo_solve_236 : decode M_Mo_solve.2.1 236 = .ok (.iload 7, 2) := by decide +kernel
theorem dc_Mo_solve_238 : decode M_Mo_solve.2.1 238 = .ok (.imul, 1) := by decide +kernel
theorem dc_Mo_solve_239 : decode M_Mo_solve.2.1 239 = .ok (.iload 4, 2) := by decide +kernel
theorem dc_Mo_solve_241 : decode M_Mo_solve.2.1 241 = .ok (.iadd, 1) := by decide +kernel
theorem dc_Mo_solve_242 : decode M_Mo_solve.2.1 242 = .ok (.iaload, 1) := by decide +kernel
theorem dc_Mo_solve_243 : decode M_Mo_solve.2.1 243 = .ok (.iload_n 2, 1) := by decide +kernel
theorem dc_Mo_solve_244 : decode M_Mo_solve.2.1 244 = .ok (.invokevirtual 183, 3) := by decide +kernel
theorem km_9_183 : rM 9 183 = some (1, M_Mo_subtract) := rM_at (j := 174) (p := 1258) (by decide +kernel) rfl
theorem np_Mo_subtract : nP M_Mo_subtract = 4 := by decide +kernel
theorem dc_Mo_solve_247 : decode M_Mo_solve.2.1 247 = .ok (.iinc 7 1, 3) := by decide +kernel
theorem dc_Mo_solve_250 : decode M_Mo_solve.2.1 250 = .ok (.goto (-41), 3) := by decide +kernel
theorem dc_Mo_solve_262 : decode M_Mo_solve.2.1 262 = .ok (.iload 4, 2) := by decide +kernel
theorem dc_Mo_solve_264 : decode M_Mo_solve.2.1 264 = .ok (.aload_n 0, 1) := by decide +kernel
theorem dc_Mo_solve_265 : decode M_Mo_solve.2.1 265 = .ok (.getfield 7, 3) := by decide +kernel
theorem dc_Mo_solve_268 : decode M_Mo_solve.2.1 268 = .ok (.if_icmp .ge 49, 3) := by decide +kernel
theorem dc_Mo_solve_317 : decode M_Mo_solve.2.1 317 = .ok (.return_, 1) := by decide +kernel
theorem dc_Mo_solve_271 : decode M_Mo_solve.2.1 271 = .ok (.iconst 0, 1) := by decide +kernel
theorem dc_Mo_solve_272 : decode M_Mo_solve.2.1 272 = .ok (.istore 5, 2) := by decide +kernel
theorem dc_Mo_solve_274 : decode M_Mo_solve.2.1 274 = .ok (.iload 5, 2) := by decide +kernel
theorem dc_Mo_solve_276 : decode M_Mo_solve.2.1 276 = .ok (.iload_n 2, 1) := by decide +kernel
theorem dc_Mo_solve_277 : decode M_Mo_solve.2.1 277 = .ok (.if_icmp .ge 34, 3) := by decide +kernel
theorem dc_Mo_solve_311 : decode M_Mo_solve.2.1 311 = .ok (.iinc 4 1, 3) := by decide +kernel
theorem dc_Mo_solve_314 : decode M_Mo_solve.2.1 314 = .ok (.goto (-52), 3) := by decide +kernel
theorem dc_Mo_solve_280 : decode M_Mo_solve.2.1 280 = .ok (.aload_n 0, 1) := by decide +kernel
theorem dc_Mo_solve_281 : decode M_Mo_solve.2.1 281 = .ok (.getfield 101, 3) := by decide +kernel
theorem dc_Mo_solve_284 : decode M_Mo_solve.2.1 284 = .ok (.iload 4, 2) := by decide +kernel
theorem dc_Mo_solve_286 : decode M_Mo_solve.2.1 286 = .ok (.iload_n 2, 1) := by decide +kernel
theorem dc_Mo_solve_287 : decode M_Mo_solve.2.1 287 = .ok (.imul, 1) := by decide +kernel
theorem dc_Mo_solve_288 : decode M_Mo_solve.2.1 288 = .ok (.iload 5, 2) := by decide +kernel
theorem dc_Mo_solve_290 : decode M_Mo_solve.2.1 290 = .ok (.iadd, 1) := by decide +kernel
theorem dc_Mo_solve_291 : decode M_Mo_solve.2.1 291 = .ok (.aload_n 0, 1) := by decide +kernel
theorem dc_Mo_solve_292 : decode M_Mo_solve.2.1 292 = .ok (.getfield 104, 3) := by decide +kernel
theorem dc_Mo_solve_295 : decode M_Mo_solve.2.1 295 = .ok (.bipush 30, 2) := by decide +kernel
theorem dc_Mo_solve_297 : decode M_Mo_solve.2.1 297 = .ok (.iload 4, 2) := by decide +kernel
theorem dc_Mo_solve_299 : decode M_Mo_solve.2.1 299 = .ok (.imul, 1) := by decide +kernel
theorem dc_Mo_solve_300 : decode M_Mo_solve.2.1 300 = .ok (.iload 5, 2) := by decide +kernel
theorem dc_Mo_solve_302 : decode M_Mo_solve.2.1 302 = .ok (.iadd, 1) := by decide +kernel
theorem dc_Mo_solve_303 : decode M_Mo_solve.2.1 303 = .ok (.iaload, 1) := by decide +kernel
theorem dc_Mo_solve_304 : decode M_Mo_solve.2.1 304 = .ok (.iastore, 1) := by decide +kernel
theorem dc_Mo_solve_305 : decode M_Mo_solve.2.1 305 = .ok (.iinc 5 1, 3) := by decide +kernel
theorem dc_Mo_solve_308 : decode M_Mo_solve.2.1 308 = .ok (.goto (-34), 3) := by decide +kernel
theorem dc_Mo_swap_0 : decode M_Mo_swap.2.1 0 = .ok (.iconst 0, 1) := by decide +kernel
theorem dc_Mo_swap_1 : decode M_Mo_swap.2.1 1 = .ok (.istore 4, 2) := by decide +kernel
theorem dc_Mo_swap_3 : decode M_Mo_swap.2.1 3 = .ok (.iload 4, 2) := by decide +kernel
theorem dc_Mo_swap_5 : decode M_Mo_swap.2.1 5 = .ok (.aload_n 0, 1) := by decide +kernel
theorem dc_Mo_swap_6 : decode M_Mo_swap.2.1 6 = .ok (.getfield 7, 3) := by decide +kernel
theorem dc_Mo_swap_9 : decode M_Mo_swap.2.1 9 = .ok (.if_icmp .ge 61, 3) := by decide +kernel
theorem dc_Mo_swap_70 : decode M_Mo_swap.2.1 70 = .ok (.iconst 0, 1) := by decide +kernel
theorem dc_Mo_swap_71 : decode M_Mo_swap.2.1 71 = .ok (.istore 4, 2) := by decide +kernel
theorem dc_Mo_swap_12 : decode M_Mo_swap.2.1 12 = .ok (.aload_n 0, 1) := by decide +kernel
theorem dc_Mo_swap_13 : decode M_Mo_swap.2.1 13 = .ok (.getfield 98, 3) := by decide +kernel
theorem dc_Mo_swap_16 : decode M_Mo_swap.2.1 16 = .ok (.bipush 6, 2) := by decide +kernel
theorem dc_Mo_swap_18 : decode M_Mo_swap.2.1 18 = .ok (.iload_n 1, 1) := by decide +kernel
theorem dc_Mo_swap_19 : decode M_Mo_swap.2.1 19 = .ok (.imul, 1) := by decide +kernel
theorem dc_Mo_swap_20 : decode M_Mo_swap.2.1 20 = .ok (.iload 4, 2) := by decide +kernel
theorem dc_Mo_swap_22 : decode M_Mo_swap.2.1 22 = .ok (.iadd, 1) := by decide +kernel
theorem dc_Mo_swap_23 : decode M_Mo_swap.2.1 23 = .ok (.iaload, 1) := by decide +kernel
theorem dc_Mo_swap_24 : decode M_Mo_swap.2.1 24 = .ok (.istore 5, 2) := by decide +kernel
theorem dc_Mo_swap_26 : decode M_Mo_swap.2.1 26 = .ok (.aload_n 0, 1) := by decide +kernel
theorem dc_Mo_swap_27 : decode M_Mo_swap.2.1 27 = .ok (.getfield 98, 3) := by decide +kernel
theorem dc_Mo_swap_30 : decode M_Mo_swap.2.1 30 = .ok (.bipush 6, 2) := by decide +kernel
theorem dc_Mo_swap_32 : decode M_Mo_swap.2.1 32 = .ok (.iload_n 1, 1) := by decide +kernel
theorem dc_Mo_swap_33 : decode M_Mo_swap.2.1 33 = .ok (.imul, 1) := by decide +kernel
theorem dc_Mo_swap_34 : decode M_Mo_swap.2.1 34 = .ok (.iload 4, 2) := by decide +kernel
theorem dc_Mo_swap_36 : decode M_Mo_swap.2.1 36 = .ok (.iadd, 1) := by decide +kernel
theorem dc_Mo_swap_37 : decode M_Mo_swap.2.1 37 = .ok (.aload_n 0, 1) := by decide +kernel
theorem dc_Mo_swap_38 : decode M_Mo_swap.2.1 38 = .ok (.getfield 98, 3) := by decide +kernel
theorem dc_Mo_swap_41 : decode M_Mo_swap.2.1 41 = .ok (.bipush 6, 2) := by decide +kernel
theorem dc_Mo_swap_43 : decode M_Mo_swap.2.1 43 = .ok (.iload_n 2, 1) := by decide +kernel
theorem dc_Mo_swap_44 : decode M_Mo_swap.2.1 44 = .ok (.imul, 1) := by decide +kernel
theorem dc_Mo_swap_45 : decode M_Mo_swap.2.1 45 = .ok (.iload 4, 2) := by decide +kernel
theorem dc_Mo_swap_47 : decode M_Mo_swap.2.1 47 = .ok (.iadd, 1) := by decide +kernel
theorem dc_Mo_swap_48 : decode M_Mo_swap.2.1 48 = .ok (.iaload, 1) := by decide +kernel
theorem dc_Mo_swap_49 : decode M_Mo_swap.2.1 49 = .ok (.iastore, 1) := by decide +kernel
theorem dc_Mo_swap_50 : decode M_Mo_swap.2.1 50 = .ok (.aload_n 0, 1) := by decide +kernel
theorem dc_Mo_swap_51 : decode M_Mo_swap.2.1 51 = .ok (.getfield 98, 3) := by decide +kernel
theorem dc_Mo_swap_54 : decode M_Mo_swap.2.1 54 = .ok (.bipush 6, 2) := by decide +kernel
theorem dc_Mo_swap_56 : decode M_Mo_swap.2.1 56 = .ok (.iload_n 2, 1) := by decide +kernel
theorem dc_Mo_swap_57 : decode M_Mo_swap.2.1 57 = .ok (.imul, 1) := by decide +kernel
theorem dc_Mo_swap_58 : decode M_Mo_swap.2.1 58 = .ok (.iload 4, 2) := by decide +kernel
theorem dc_Mo_swap_60 : decode M_Mo_swap.2.1 60 = .ok (.iadd, 1) := by decide +kernel
theorem dc_Mo_swap_61 : decode M_Mo_swap.2.1 61 = .ok (.iload 5, 2) := by decide +kernel
theorem dc_Mo_swap_63 : decode M_Mo_swap.2.1 63 = .ok (.iastore, 1) := by decide +kernel
theorem dc_Mo_swap_64 : decode M_Mo_swap.2.1 64 = .ok (.iinc 4 1, 3) := by decide +kernel
theorem dc_Mo_swap_67 : decode M_Mo_swap.2.1 67 = .ok (.goto (-64), 3) := by decide +kernel
theorem dc_Mo_swap_73 : decode M_Mo_swap.2.1 73 = .ok (.iload 4, 2) := by decide +kernel
theorem dc_Mo_swap_75 : decode M_Mo_swap.2.1 75 = .ok (.iload_n 3, 1) := by decide +kernel
theorem dc_Mo_swap_76 : decode M_Mo_swap.2.1 76 = .ok (.if_icmp .ge 61, 3) := by decide +kernel
theorem dc_Mo_swap_137 : decode M_Mo_swap.2.1 137 = .ok (.return_, 1) := by decide +kernel
theorem dc_Mo_swap_79 : decode M_Mo_swap.2.1 79 = .ok (.aload_n 0, 1) := by decide +kernel
theorem dc_Mo_swap_80 : decode M_Mo_swap.2.1 80 = .ok (.getfield 104, 3) := by decide +kernel
theorem dc_Mo_swap_83 : decode M_Mo_swap.2.1 83 = .ok (.bipush 30, 2) := by decide +kernel
theorem dc_Mo_swap_85 : decode M_Mo_swap.2.1 85 = .ok (.iload_n 1, 1) := by decide +kernel
theorem dc_Mo_swap_86 : decode M_Mo_swap.2.1 86 = .ok (.imul, 1) := by decide +kernel
theorem dc_Mo_swap_87 : decode M_Mo_swap.2.1 87 = .ok (.iload 4, 2) := by decide +kernel
theorem dc_Mo_swap_89 : decode M_Mo_swap.2.1 89 = .ok (.iadd, 1) := by decide +kernel
theorem dc_Mo_swap_90 : decode M_Mo_swap.2.1 90 = .ok (.iaload, 1) := by decide +kernel
theorem dc_Mo_swap_91 : decode M_Mo_swap.2.1 91 = .ok (.istore 5, 2) := by decide +kernel
theorem dc_Mo_swap_93 : decode M_Mo_swap.2.1 93 = .ok (.aload_n 0, 1) := by decide +kernel
theorem dc_Mo_swap_94 : decode M_Mo_swap.2.1 94 = .ok (.getfield 104, 3) := by decide +kernel
theorem dc_Mo_swap_97 : decode M_Mo_swap.2.1 97 = .ok (.bipush 30, 2) := by decide +kernel
theorem dc_Mo_swap_99 : decode M_Mo_swap.2.1 99 = .ok (.iload_n 1, 1) := by decide +kernel
theorem dc_Mo_swap_100 : decode M_Mo_swap.2.1 100 = .ok (.imul, 1) := by decide +kernel
theorem dc_Mo_swap_101 : decode M_Mo_swap.2.1 101 = .ok (.iload 4, 2) := by decide +kernel
theorem dc_Mo_swap_103 : decode M_Mo_swap.2.1 103 = .ok (.iadd, 1) := by decide +kernel
theorem dc_Mo_swap_104 : decode M_Mo_swap.2.1 104 = .ok (.aload_n 0, 1) := by decide +kernel
theorem dc_Mo_swap_105 : decode M_Mo_swap.2.1 105 = .ok (.getfield 104, 3) := by decide +kernel
theorem dc_Mo_swap_108 : decode M_Mo_swap.2.1 108 = .ok (.bipush 30, 2) := by decide +kernel
theorem dc_Mo_swap_110 : decode M_Mo_swap.2.1 110 = .ok (.iload_n 2, 1) := by decide +kernel
theorem dc_Mo_swap_111 : decode M_Mo_swap.2.1 111 = .ok (.imul, 1) := by decide +kernel
theorem dc_Mo_swap_112 : decode M_Mo_swap.2.1 112 = .ok (.iload 4, 2) := by decide +kernel
theorem dc_Mo_swap_114 : decode M_Mo_swap.2.1 114 = .ok (.iadd, 1) := by decide +kernel
theorem dc_Mo_swap_115 : decode M_Mo_swap.2.1 115 = .ok (.iaload, 1) := by decide +kernel
theorem dc_Mo_swap_116 : decode M_Mo_swap.2.1 116 = .ok (.iastore, 1) := by decide +kernel
theorem dc_Mo_swap_117 : decode M_Mo_swap.2.1 117 = .ok (.aload_n 0, 1) := by decide +kernel
theorem dc_Mo_swap_118 : decode M_Mo_swap.2.1 118 = .ok (.getfield 104, 3) := by decide +kernel
theorem dc_Mo_swap_121 : decode M_Mo_swap.2.1 121 = .ok (.bipush 30, 2) := by decide +kernel
theorem dc_Mo_swap_123 : decode M_Mo_swap.2.1 123 = .ok (.iload_n 2, 1) := by decide +kernel
theorem dc_Mo_swap_124 : decode M_Mo_swap.2.1 124 = .ok (.imul, 1) := by decide +kernel
theorem dc_Mo_swap_125 : decode M_Mo_swap.2.1 125 = .ok (.iload 4, 2) := by decide +kernel
theorem dc_Mo_swap_127 : decode M_Mo_swap.2.1 127 = .ok (.iadd, 1) := by decide +kernel
theorem dc_Mo_swap_128 : decode M_Mo_swap.2.1 128 = .ok (.iload 5, 2) := by decide +kernel
theorem dc_Mo_swap_130 : decode M_Mo_swap.2.1 130 = .ok (.iastore, 1) := by decide +kernel
theorem dc_Mo_swap_131 : decode M_Mo_swap.2.1 131 = .ok (.iinc 4 1, 3) := by decide +kernel
theorem dc_Mo_swap_134 : decode M_Mo_swap.2.1 134 = .ok (.goto (-61), 3) := by decide +kernel
theorem dc_Mo_scale_0 : decode M_Mo_scale.2.1 0 = .ok (.iconst 0, 1) := by decide +kernel
theorem dc_Mo_scale_1 : decode M_Mo_scale.2.1 1 = .ok (.istore 4, 2) := by decide +kernel
theorem dc_Mo_scale_3 : decode M_Mo_scale.2.1 3 = .ok (.iload 4, 2) := by decide +kernel
theorem dc_Mo_scale_5 : decode M_Mo_scale.2.1 5 = .ok (.aload_n 0, 1) := by decide +kernel
theorem dc_Mo_scale_6 : decode M_Mo_scale.2.1 6 = .ok (.getfield 7, 3) := by decide +kernel
theorem dc_Mo_scale_9 : decode M_Mo_scale.2.1 9 = .ok (.if_icmp .ge 37, 3) := by decide +kernel
theorem dc_Mo_scale_46 : decode M_Mo_scale.2.1 46 = .ok (.iconst 0, 1) := by decide +kernel
theorem dc_Mo_scale_47 : decode M_Mo_scale.2.1 47 = .ok (.istore 4, 2) := by decide +kernel
theorem dc_Mo_scale_12 : decode M_Mo_scale.2.1 12 = .ok (.aload_n 0, 1) := by decide +kernel
theorem dc_Mo_scale_13 : decode M_Mo_scale.2.1 13 = .ok (.getfield 98, 3) := by decide +kernel
theorem dc_Mo_scale_16 : decode M_Mo_scale.2.1 16 = .ok (.bipush 6, 2) := by decide +kernel
theorem dc_Mo_scale_18 : decode M_Mo_scale.2.1 18 = .ok (.iload_n 1, 1) := by decide +kernel
theorem dc_Mo_scale_19 : decode M_Mo_scale.2.1 19 = .ok (.imul, 1) := by decide +kernel
theorem dc_Mo_scale_20 : decode M_Mo_scale.2.1 20 = .ok (.iload 4, 2) := by decide +kernel
theorem dc_Mo_scale_22 : decode M_Mo_scale.2.1 22 = .ok (.iadd, 1) := by decide +kernel
theorem dc_Mo_scale_23 : decode M_Mo_scale.2.1 23 = .ok (.iload_n 2, 1) := by decide +kernel
theorem dc_Mo_scale_24 : decode M_Mo_scale.2.1 24 = .ok (.aload_n 0, 1) := by decide +kernel
theorem dc_Mo_scale_25 : decode M_Mo_scale.2.1 25 = .ok (.getfield 98, 3) := by decide +kernel
theorem dc_Mo_scale_28 : decode M_Mo_scale.2.1 28 = .ok (.bipush 6, 2) := by decide +kernel
theorem dc_Mo_scale_30 : decode M_Mo_scale.2.1 30 = .ok (.iload_n 1, 1) := by decide +kernel
theorem dc_Mo_scale_31 : decode M_Mo_scale.2.1 31 = .ok (.imul, 1) := by decide +kernel
theorem dc_Mo_scale_32 : decode M_Mo_scale.2.1 32 = .ok (.iload 4, 2) := by decide +kernel
theorem dc_Mo_scale_34 : decode M_Mo_scale.2.1 34 = .ok (.iadd, 1) := by decide +kernel
theorem dc_Mo_scale_35 : decode M_Mo_scale.2.1 35 = .ok (.iaload, 1) := by decide +kernel
theorem dc_Mo_scale_36 : decode M_Mo_scale.2.1 36 = .ok (.invokestatic 160, 3) := by decide +kernel
theorem dc_Mo_scale_39 : decode M_Mo_scale.2.1 39 = .ok (.iastore, 1) := by decide +kernel
theorem dc_Mo_scale_40 : decode M_Mo_scale.2.1 40 = .ok (.iinc 4 1, 3) := by decide +kernel
theorem dc_Mo_scale_43 : decode M_Mo_scale.2.1 43 = .ok (.goto (-40), 3) := by decide +kernel
theorem dc_Mo_scale_49 : decode M_Mo_scale.2.1 49 = .ok (.iload 4, 2) := by decide +kernel
theorem dc_Mo_scale_51 : decode M_Mo_scale.2.1 51 = .ok (.iload_n 3, 1) := by decide +kernel
theorem dc_Mo_scale_52 : decode M_Mo_scale.2.1 52 = .ok (.if_icmp .ge 37, 3) := by decide +kernel
theorem dc_Mo_scale_89 : decode M_Mo_scale.2.1 89 = .ok (.return_, 1) := by decide +kernel
theorem dc_Mo_scale_55 : decode M_Mo_scale.2.1 55 = .ok (.aload_n 0, 1) := by decide +kernel
theorem dc_Mo_scale_56 : decode M_Mo_scale.2.1 56 = .ok (.getfield 104, 3) := by decide +kernel
theorem dc_Mo_scale_59 : decode M_Mo_scale.2.1 59 = .ok (.bipush 30, 2) := by decide +kernel
theorem dc_Mo_scale_61 : decode M_Mo_scale.2.1 61 = .ok (.iload_n 1, 1) := by decide +kernel
theorem dc_Mo_scale_62 : decode M_Mo_scale.2.1 62 = .ok (.imul, 1) := by decide +kernel
theorem dc_Mo_scale_63 : decode M_Mo_scale.2.1 63 = .ok (.iload 4, 2) := by decide +kernel
theorem dc_Mo_scale_65 : decode M_Mo_scale.2.1 65 = .ok (.iadd, 1) := by decide +kernel
theorem dc_Mo_scale_66 : decode M_Mo_scale.2.1 66 = .ok (.iload_n 2, 1) := by decide +kernel
theorem dc_Mo_scale_67 : decode M_Mo_scale.2.1 67 = .ok (.aload_n 0, 1) := by decide +kernel
theorem dc_Mo_scale_68 : decode M_Mo_scale.2.1 68 = .ok (.getfield 104, 3) := by decide +kernel
theorem dc_Mo_scale_71 : decode M_Mo_scale.2.1 71 = .ok (.bipush 30, 2) := by decide +kernel
theorem dc_Mo_scale_73 : decode M_Mo_scale.2.1 73 = .ok (.iload_n 1, 1) := by decide +kernel
theorem dc_Mo_scale_74 : decode M_Mo_scale.2.1 74 = .ok (.imul, 1) := by decide +kernel
theorem dc_Mo_scale_75 : decode M_Mo_scale.2.1 75 = .ok (.iload 4, 2) := by decide +kernel
theorem dc_Mo_scale_77 : decode M_Mo_scale.2.1 77 = .ok (.iadd, 1) := by decide +kernel
theorem dc_Mo_scale_78 : decode M_Mo_scale.2.1 78 = .ok (.iaload, 1) := by decide +kernel
theorem dc_Mo_scale_79 : decode M_Mo_scale.2.1 79 = .ok (.invokestatic 160, 3) := by decide +kernel
theorem dc_Mo_scale_82 : decode M_Mo_scale.2.1 82 = .ok (.iastore, 1) := by decide +kernel
theorem dc_Mo_scale_83 : decode M_Mo_scale.2.1 83 = .ok (.iinc 4 1, 3) := by decide +kernel
theorem dc_Mo_scale_86 : decode M_Mo_scale.2.1 86 = .ok (.goto (-37), 3) := by decide +kernel
theorem dc_Mo_subtract_0 : decode M_Mo_subtract.2.1 0 = .ok (.iconst 0, 1) := by decide +kernel
theorem dc_Mo_subtract_1 : decode M_Mo_subtract.2.1 1 = .ok (.istore 5, 2) := by decide +kernel
theorem dc_Mo_subtract_3 : decode M_Mo_subtract.2.1 3 = .ok (.iload 5, 2) := by decide +kernel
theorem dc_Mo_subtract_5 : decode M_Mo_subtract.2.1 5 = .ok (.aload_n 0, 1) := by decide +kernel
theorem dc_Mo_subtract_6 : decode M_Mo_subtract.2.1 6 = .ok (.getfield 7, 3) := by decide +kernel
theorem dc_Mo_subtract_9 : decode M_Mo_subtract.2.1 9 = .ok (.if_icmp .ge 50, 3) := by decide +kernel
theorem dc_Mo_subtract_59 : decode M_Mo_subtract.2.1 59 = .ok (.iconst 0, 1) := by decide +kernel
theorem dc_Mo_subtract_60 : decode M_Mo_subtract.2.1 60 = .ok (.istore 5, 2) := by decide +kernel
theorem dc_Mo_subtract_12 : decode M_Mo_subtract.2.1 12 = .ok (.aload_n 0, 1) := by decide +kernel
theorem dc_Mo_subtract_13 : decode M_Mo_subtract.2.1 13 = .ok (.getfield 98, 3) := by decide +kernel
theorem dc_Mo_subtract_16 : decode M_Mo_subtract.2.1 16 = .ok (.bipush 6, 2) := by decide +kernel
theorem dc_Mo_subtract_18 : decode M_Mo_subtract.2.1 18 = .ok (.iload_n 1, 1) := by decide +kernel
theorem dc_Mo_subtract_19 : decode M_Mo_subtract.2.1 19 = .ok (.imul, 1) := by decide +kernel
theorem dc_Mo_subtract_20 : decode M_Mo_subtract.2.1 20 = .ok (.iload 5, 2) := by decide +kernel
theorem dc_Mo_subtract_22 : decode M_Mo_subtract.2.1 22 = .ok (.iadd, 1) := by decide +kernel
theorem dc_Mo_subtract_23 : decode M_Mo_subtract.2.1 23 = .ok (.aload_n 0, 1) := by decide +kernel
theorem dc_Mo_subtract_24 : decode M_Mo_subtract.2.1 24 = .ok (.getfield 98, 3) := by decide +kernel
theorem dc_Mo_subtract_27 : decode M_Mo_subtract.2.1 27 = .ok (.bipush 6, 2) := by decide +kernel
theorem dc_Mo_subtract_29 : decode M_Mo_subtract.2.1 29 = .ok (.iload_n 1, 1) := by decide +kernel
theorem dc_Mo_subtract_30 : decode M_Mo_subtract.2.1 30 = .ok (.imul, 1) := by decide +kernel
theorem dc_Mo_subtract_31 : decode M_Mo_subtract.2.1 31 = .ok (.iload 5, 2) := by decide +kernel
theorem dc_Mo_subtract_33 : decode M_Mo_subtract.2.1 33 = .ok (.iadd, 1) := by decide +kernel
theorem dc_Mo_subtract_34 : decode M_Mo_subtract.2.1 34 = .ok (.iaload, 1) := by decide +kernel
theorem dc_Mo_subtract_35 : decode M_Mo_subtract.2.1 35 = .ok (.iload_n 3, 1) := by decide +kernel
theorem dc_Mo_subtract_36 : decode M_Mo_subtract.2.1 36 = .ok (.aload_n 0, 1) := by decide +kernel
theorem dc_Mo_subtract_37 : decode M_Mo_subtract.2.1 37 = .ok (.getfield 98, 3) := by decide +kernel
theorem dc_Mo_subtract_40 : decode M_Mo_subtract.2.1 40 = .ok (.bipush 6, 2) := by decide +kernel
theorem dc_Mo_subtract_42 : decode M_Mo_subtract.2.1 42 = .ok (.iload_n 2, 1) := by decide +kernel
theorem dc_Mo_subtract_43 : decode M_Mo_subtract.2.1 43 = .ok (.imul, 1) := by decide +kernel
theorem dc_Mo_subtract_44 : decode M_Mo_subtract.2.1 44 = .ok (.iload 5, 2) := by decide +kernel
theorem dc_Mo_subtract_46 : decode M_Mo_subtract.2.1 46 = .ok (.iadd, 1) := by decide +kernel
theorem dc_Mo_subtract_47 : decode M_Mo_subtract.2.1 47 = .ok (.iaload, 1) := by decide +kernel
theorem dc_Mo_subtract_48 : decode M_Mo_subtract.2.1 48 = .ok (.invokestatic 160, 3) := by decide +kernel
theorem dc_Mo_subtract_51 : decode M_Mo_subtract.2.1 51 = .ok (.ixor, 1) := by decide +kernel
theorem dc_Mo_subtract_52 : decode M_Mo_subtract.2.1 52 = .ok (.iastore, 1) := by decide +kernel
theorem dc_Mo_subtract_53 : decode M_Mo_subtract.2.1 53 = .ok (.iinc 5 1, 3) := by decide +kernel
theorem dc_Mo_subtract_56 : decode M_Mo_subtract.2.1 56 = .ok (.goto (-53), 3) := by decide +kernel
theorem dc_Mo_subtract_62 : decode M_Mo_subtract.2.1 62 = .ok (.iload 5, 2) := by decide +kernel
theorem dc_Mo_subtract_64 : decode M_Mo_subtract.2.1 64 = .ok (.iload 4, 2) := by decide +kernel
theorem dc_Mo_subtract_66 : decode M_Mo_subtract.2.1 66 = .ok (.if_icmp .ge 50, 3) := by decide +kernel
theorem dc_Mo_subtract_116 : decode M_Mo_subtract.2.1 116 = .ok (.return_, 1) := by decide +kernel
theorem dc_Mo_subtract_69 : decode M_Mo_subtract.2.1 69 = .ok (.aload_n 0, 1) := by decide +kernel
theorem dc_Mo_subtract_70 : decode M_Mo_subtract.2.1 70 = .ok (.getfield 104, 3) := by decide +kernel
theorem dc_Mo_subtract_73 : decode M_Mo_subtract.2.1 73 = .ok (.bipush 30, 2) := by decide +kernel
theorem dc_Mo_subtract_75 : decode M_Mo_subtract.2.1 75 = .ok (.iload_n 1, 1) := by decide +kernel
theorem dc_Mo_subtract_76 : decode M_Mo_subtract.2.1 76 = .ok (.imul, 1) := by decide +kernel
theorem dc_Mo_subtract_77 : decode M_Mo_subtract.2.1 77 = .ok (.iload 5, 2) := by decide +kernel
theorem dc_Mo_subtract_79 : decode M_Mo_subtract.2.1 79 = .ok (.iadd, 1) := by decide +kernel
theorem dc_Mo_subtract_80 : decode M_Mo_subtract.2.1 80 = .ok (.aload_n 0, 1) := by decide +kernel
theorem dc_Mo_subtract_81 : decode M_Mo_subtract.2.1 81 = .ok (.getfield 104, 3) := by decide +kernel
theorem dc_Mo_subtract_84 : decode M_Mo_subtract.2.1 84 = .ok (.bipush 30, 2) := by decide +kernel
theorem dc_Mo_subtract_86 : decode M_Mo_subtract.2.1 86 = .ok (.iload_n 1, 1) := by decide +kernel
theorem dc_Mo_subtract_87 : decode M_Mo_subtract.2.1 87 = .ok (.imul, 1) := by decide +kernel
theorem dc_Mo_subtract_88 : decode M_Mo_subtract.2.1 88 = .ok (.iload 5, 2) := by decide +kernel
theorem dc_Mo_subtract_90 : decode M_Mo_subtract.2.1 90 = .ok (.iadd, 1) := by decide +kernel
theorem dc_Mo_subtract_91 : decode M_Mo_subtract.2.1 91 = .ok (.iaload, 1) := by decide +kernel
theorem dc_Mo_subtract_92 : decode M_Mo_subtract.2.1 92 = .ok (.iload_n 3, 1) := by decide +kernel
theorem dc_Mo_subtract_93 : decode M_Mo_subtract.2.1 93 = .ok (.aload_n 0, 1) := by decide +kernel
theorem dc_Mo_subtract_94 : decode M_Mo_subtract.2.1 94 = .ok (.getfield 104, 3) := by decide +kernel
theorem dc_Mo_subtract_97 : decode M_Mo_subtract.2.1 97 = .ok (.bipush 30, 2) := by decide +kernel
theorem dc_Mo_subtract_99 : decode M_Mo_subtract.2.1 99 = .ok (.iload_n 2, 1) := by decide +kernel
theorem dc_Mo_subtract_100 : decode M_Mo_subtract.2.1 100 = .ok (.imul, 1) := by decide +kernel
theorem dc_Mo_subtract_101 : decode M_Mo_subtract.2.1 101 = .ok (.iload 5, 2) := by decide +kernel
theorem dc_Mo_subtract_103 : decode M_Mo_subtract.2.1 103 = .ok (.iadd, 1) := by decide +kernel
theorem dc_Mo_subtract_104 : decode M_Mo_subtract.2.1 104 = .ok (.iaload, 1) := by decide +kernel
theorem dc_Mo_subtract_105 : decode M_Mo_subtract.2.1 105 = .ok (.invokestatic 160, 3) := by decide +kernel
theorem dc_Mo_subtract_108 : decode M_Mo_subtract.2.1 108 = .ok (.ixor, 1) := by decide +kernel
theorem dc_Mo_subtract_109 : decode M_Mo_subtract.2.1 109 = .ok (.iastore, 1) := by decide +kernel
theorem dc_Mo_subtract_110 : decode M_Mo_subtract.2.1 110 = .ok (.iinc 5 1, 3) := by decide +kernel
theorem dc_Mo_subtract_113 : decode M_Mo_subtract.2.1 113 = .ok (.goto (-51), 3) := by decide +kernel
theorem dc_Mo_restore_0 : decode M_Mo_restore.2.1 0 = .ok (.aload_n 0, 1) := by decide +kernel
theorem dc_Mo_restore_1 : decode M_Mo_restore.2.1 1 = .ok (.iload_n 1, 1) := by decide +kernel
theorem dc_Mo_restore_2 : decode M_Mo_restore.2.1 2 = .ok (.invokevirtual 120, 3) := by decide +kernel
theorem dc_Mo_restore_5 : decode M_Mo_restore.2.1 5 = .ok (.ifCond .eq 12, 3) := by decide +kernel
theorem dc_Mo_restore_17 : decode M_Mo_restore.2.1 17 = .ok (.iconst (-1), 1) := by decide +kernel
theorem dc_Mo_restore_8 : decode M_Mo_restore.2.1 8 = .ok (.aload_n 0, 1) := by decide +kernel
theorem dc_Mo_restore_9 : decode M_Mo_restore.2.1 9 = .ok (.iload_n 1, 1) := by decide +kernel
theorem dc_Mo_restore_10 : decode M_Mo_restore.2.1 10 = .ok (.iload_n 2, 1) := by decide +kernel
theorem dc_Mo_restore_11 : decode M_Mo_restore.2.1 11 = .ok (.invokevirtual 230, 3) := by decide +kernel
theorem km_9_230 : rM 9 230 = some (1, M_Mo_slotOf) := rM_at (j := 176) (p := 1266) (by decide +kernel) rfl
theorem np_Mo_slotOf : nP M_Mo_slotOf = 2 := by decide +kernel
theorem dc_Mo_restore_14 : decode M_Mo_restore.2.1 14 = .ok (.goto 4, 3) := by decide +kernel
theorem dc_Mo_restore_18 : decode M_Mo_restore.2.1 18 = .ok (.istore 4, 2) := by decide +kernel
theorem dc_Mo_restore_20 : decode M_Mo_restore.2.1 20 = .ok (.iload 4, 2) := by decide +kernel
theorem dc_Mo_restore_22 : decode M_Mo_restore.2.1 22 = .ok (.ifCond .lt 32, 3) := by decide +kernel
theorem dc_Mo_restore_25 : decode M_Mo_restore.2.1 25 = .ok (.iload_n 3, 1) := by decide +kernel
theorem dc_Mo_restore_26 : decode M_Mo_restore.2.1 26 = .ok (.iconst 0, 1) := by decide +kernel
theorem dc_Mo_restore_27 : decode M_Mo_restore.2.1 27 = .ok (.bipush 9, 2) := by decide +kernel
theorem dc_Mo_restore_29 : decode M_Mo_restore.2.1 29 = .ok (.invokestatic 116, 3) := by decide +kernel
theorem dc_Mo_restore_32 : decode M_Mo_restore.2.1 32 = .ok (.ifCond .eq 22, 3) := by decide +kernel
theorem dc_Mo_restore_35 : decode M_Mo_restore.2.1 35 = .ok (.aload_n 0, 1) := by decide +kernel
theorem dc_Mo_restore_36 : decode M_Mo_restore.2.1 36 = .ok (.getfield 54, 3) := by decide +kernel
theorem dc_Mo_restore_39 : decode M_Mo_restore.2.1 39 = .ok (.bipush 10, 2) := by decide +kernel
theorem dc_Mo_restore_41 : decode M_Mo_restore.2.1 41 = .ok (.iload 4, 2) := by decide +kernel
theorem dc_Mo_restore_43 : decode M_Mo_restore.2.1 43 = .ok (.imul, 1) := by decide +kernel
theorem dc_Mo_restore_44 : decode M_Mo_restore.2.1 44 = .ok (.iload_n 3, 1) := by decide +kernel
theorem dc_Mo_restore_45 : decode M_Mo_restore.2.1 45 = .ok (.iadd, 1) := by decide +kernel
theorem dc_Mo_restore_46 : decode M_Mo_restore.2.1 46 = .ok (.iaload, 1) := by decide +kernel
theorem dc_Mo_restore_47 : decode M_Mo_restore.2.1 47 = .ok (.ifCond .lt 7, 3) := by decide +kernel
theorem dc_Mo_restore_50 : decode M_Mo_restore.2.1 50 = .ok (.iconst 1, 1) := by decide +kernel
theorem dc_Mo_restore_51 : decode M_Mo_restore.2.1 51 = .ok (.goto 4, 3) := by decide +kernel
theorem dc_Mo_restore_54 : decode M_Mo_restore.2.1 54 = .ok (.iconst 0, 1) := by decide +kernel
theorem dc_Mo_restore_55 : decode M_Mo_restore.2.1 55 = .ok (.istore 5, 2) := by decide +kernel
theorem dc_Mo_restore_57 : decode M_Mo_restore.2.1 57 = .ok (.aload_n 0, 1) := by decide +kernel
theorem dc_Mo_restore_58 : decode M_Mo_restore.2.1 58 = .ok (.iload 5, 2) := by decide +kernel
theorem dc_Mo_restore_60 : decode M_Mo_restore.2.1 60 = .ok (.ifCond .ne 7, 3) := by decide +kernel
theorem dc_Mo_restore_67 : decode M_Mo_restore.2.1 67 = .ok (.aload_n 0, 1) := by decide +kernel
theorem dc_Mo_restore_68 : decode M_Mo_restore.2.1 68 = .ok (.getfield 24, 3) := by decide +kernel
theorem dc_Mo_restore_71 : decode M_Mo_restore.2.1 71 = .ok (.iload_n 1, 1) := by decide +kernel
theorem dc_Mo_restore_72 : decode M_Mo_restore.2.1 72 = .ok (.baload, 1) := by decide +kernel
theorem dc_Mo_restore_73 : decode M_Mo_restore.2.1 73 = .ok (.ifCond .eq 7, 3) := by decide +kernel
theorem dc_Mo_restore_80 : decode M_Mo_restore.2.1 80 = .ok (.iconst 0, 1) := by decide +kernel
theorem dc_Mo_restore_76 : decode M_Mo_restore.2.1 76 = .ok (.iconst 2, 1) := by decide +kernel
theorem dc_Mo_restore_77 : decode M_Mo_restore.2.1 77 = .ok (.goto 4, 3) := by decide +kernel
theorem dc_Mo_restore_63 : decode M_Mo_restore.2.1 63 = .ok (.iconst 1, 1) := by decide +kernel
theorem dc_Mo_restore_64 : decode M_Mo_restore.2.1 64 = .ok (.goto 17, 3) := by decide +kernel
theorem dc_Mo_restore_81 : decode M_Mo_restore.2.1 81 = .ok (.invokevirtual 132, 3) := by decide +kernel
theorem dc_Mo_restore_84 : decode M_Mo_restore.2.1 84 = .ok (.ifCond .eq 5, 3) := by decide +kernel
theorem dc_Mo_restore_89 : decode M_Mo_restore.2.1 89 = .ok (.sipush 500, 3) := by decide +kernel
theorem dc_Mo_restore_92 : decode M_Mo_restore.2.1 92 = .ok (.iload 4, 2) := by decide +kernel
theorem dc_Mo_restore_94 : decode M_Mo_restore.2.1 94 = .ok (.imul, 1) := by decide +kernel
theorem dc_Mo_restore_95 : decode M_Mo_restore.2.1 95 = .ok (.istore 6, 2) := by decide +kernel
theorem dc_Mo_restore_97 : decode M_Mo_restore.2.1 97 = .ok (.iconst 0, 1) := by decide +kernel
theorem dc_Mo_restore_98 : decode M_Mo_restore.2.1 98 = .ok (.istore 7, 2) := by decide +kernel
theorem dc_Mo_restore_87 : decode M_Mo_restore.2.1 87 = .ok (.iconst 0, 1) := by decide +kernel
theorem dc_Mo_restore_88 : decode M_Mo_restore.2.1 88 = .ok (.ireturn, 1) := by decide +kernel
theorem dc_Mo_restore_100 : decode M_Mo_restore.2.1 100 = .ok (.iload 7, 2) := by decide +kernel
theorem dc_Mo_restore_102 : decode M_Mo_restore.2.1 102 = .ok (.iload_n 3, 1) := by decide +kernel
theorem dc_Mo_restore_103 : decode M_Mo_restore.2.1 103 = .ok (.if_icmp .ge 47, 3) := by decide +kernel
theorem dc_Mo_restore_150 : decode M_Mo_restore.2.1 150 = .ok (.iload 6, 2) := by decide +kernel
theorem dc_Mo_restore_152 : decode M_Mo_restore.2.1 152 = .ok (.aload_n 0, 1) := by decide +kernel
theorem dc_Mo_restore_153 : decode M_Mo_restore.2.1 153 = .ok (.getfield 54, 3) := by decide +kernel
theorem dc_Mo_restore_156 : decode M_Mo_restore.2.1 156 = .ok (.bipush 10, 2) := by decide +kernel
theorem dc_Mo_restore_158 : decode M_Mo_restore.2.1 158 = .ok (.iload 4, 2) := by decide +kernel
theorem dc_Mo_restore_160 : decode M_Mo_restore.2.1 160 = .ok (.imul, 1) := by decide +kernel
theorem dc_Mo_restore_161 : decode M_Mo_restore.2.1 161 = .ok (.iload_n 3, 1) := by decide +kernel
theorem dc_Mo_restore_162 : decode M_Mo_restore.2.1 162 = .ok (.iadd, 1) := by decide +kernel
theorem dc_Mo_restore_163 : decode M_Mo_restore.2.1 163 = .ok (.iaload, 1) := by decide +kernel
theorem dc_Mo_restore_164 : decode M_Mo_restore.2.1 164 = .ok (.iadd, 1) := by decide +kernel
theorem dc_Mo_restore_165 : decode M_Mo_restore.2.1 165 = .ok (.istore 7, 2) := by decide +kernel
theorem dc_Mo_restore_167 : decode M_Mo_restore.2.1 167 = .ok (.iload 6, 2) := by decide +kernel
theorem dc_Mo_restore_169 : decode M_Mo_restore.2.1 169 = .ok (.istore 8, 2) := by decide +kernel
theorem dc_Mo_restore_106 : decode M_Mo_restore.2.1 106 = .ok (.iload 6, 2) := by decide +kernel
theorem dc_Mo_restore_108 : decode M_Mo_restore.2.1 108 = .ok (.aload_n 0, 1) := by decide +kernel
theorem dc_Mo_restore_109 : decode M_Mo_restore.2.1 109 = .ok (.getfield 54, 3) := by decide +kernel
theorem dc_Mo_restore_112 : decode M_Mo_restore.2.1 112 = .ok (.bipush 10, 2) := by decide +kernel
theorem dc_Mo_restore_114 : decode M_Mo_restore.2.1 114 = .ok (.iload 4, 2) := by decide +kernel
theorem dc_Mo_restore_116 : decode M_Mo_restore.2.1 116 = .ok (.imul, 1) := by decide +kernel
theorem dc_Mo_restore_117 : decode M_Mo_restore.2.1 117 = .ok (.iload 7, 2) := by decide +kernel
theorem dc_Mo_restore_119 : decode M_Mo_restore.2.1 119 = .ok (.iadd, 1) := by decide +kernel
theorem dc_Mo_restore_120 : decode M_Mo_restore.2.1 120 = .ok (.iaload, 1) := by decide +kernel
theorem dc_Mo_restore_121 : decode M_Mo_restore.2.1 121 = .ok (.ifCond .le 19, 3) := by decide +kernel
theorem dc_Mo_restore_140 : decode M_Mo_restore.2.1 140 = .ok (.iconst 0, 1) := by decide +kernel
theorem dc_Mo_restore_124 : decode M_Mo_restore.2.1 124 = .ok (.aload_n 0, 1) := by decide +kernel
theorem dc_Mo_restore_125 : decode M_Mo_restore.2.1 125 = .ok (.getfield 54, 3) := by decide +kernel
theorem dc_Mo_restore_128 : decode M_Mo_restore.2.1 128 = .ok (.bipush 10, 2) := by decide +kernel
theorem dc_Mo_restore_130 : decode M_Mo_restore.2.1 130 = .ok (.iload 4, 2) := by decide +kernel
theorem dc_Mo_restore_132 : decode M_Mo_restore.2.1 132 = .ok (.imul, 1) := by decide +kernel
theorem dc_Mo_restore_133 : decode M_Mo_restore.2.1 133 = .ok (.iload 7, 2) := by decide +kernel
theorem dc_Mo_restore_135 : decode M_Mo_restore.2.1 135 = .ok (.iadd, 1) := by decide +kernel
theorem dc_Mo_restore_136 : decode M_Mo_restore.2.1 136 = .ok (.iaload, 1) := by decide +kernel
theorem dc_Mo_restore_137 : decode M_Mo_restore.2.1 137 = .ok (.goto 4, 3) := by decide +kernel
theorem dc_Mo_restore_141 : decode M_Mo_restore.2.1 141 = .ok (.iadd, 1) := by decide +kernel
theorem dc_Mo_restore_142 : decode M_Mo_restore.2.1 142 = .ok (.istore 6, 2) := by decide +kernel
theorem dc_Mo_restore_144 : decode M_Mo_restore.2.1 144 = .ok (.iinc 7 1, 3) := by decide +kernel
theorem dc_Mo_restore_147 : decode M_Mo_restore.2.1 147 = .ok (.goto (-47), 3) := by decide +kernel
theorem dc_Mo_restore_171 : decode M_Mo_restore.2.1 171 = .ok (.iload 8, 2) := by decide +kernel
theorem dc_Mo_restore_173 : decode M_Mo_restore.2.1 173 = .ok (.iload 7, 2) := by decide +kernel
theorem dc_Mo_restore_175 : decode M_Mo_restore.2.1 175 = .ok (.if_icmp .ge 32, 3) := by decide +kernel
theorem dc_Mo_restore_207 : decode M_Mo_restore.2.1 207 = .ok (.iconst 0, 1) := by decide +kernel
theorem dc_Mo_restore_208 : decode M_Mo_restore.2.1 208 = .ok (.istore 8, 2) := by decide +kernel
theorem dc_Mo_restore_210 : decode M_Mo_restore.2.1 210 = .ok (.iload 6, 2) := by decide +kernel
theorem dc_Mo_restore_212 : decode M_Mo_restore.2.1 212 = .ok (.istore 9, 2) := by decide +kernel
theorem dc_Mo_restore_178 : decode M_Mo_restore.2.1 178 = .ok (.aload_n 0, 1) := by decide +kernel
theorem dc_Mo_restore_179 : decode M_Mo_restore.2.1 179 = .ok (.aload_n 0, 1) := by decide +kernel
theorem dc_Mo_restore_180 : decode M_Mo_restore.2.1 180 = .ok (.getfield 57, 3) := by decide +kernel
theorem dc_Mo_restore_183 : decode M_Mo_restore.2.1 183 = .ok (.iload 8, 2) := by decide +kernel
theorem dc_Mo_restore_185 : decode M_Mo_restore.2.1 185 = .ok (.iaload, 1) := by decide +kernel
theorem dc_Mo_restore_186 : decode M_Mo_restore.2.1 186 = .ok (.bipush 60, 2) := by decide +kernel
theorem dc_Mo_restore_188 : decode M_Mo_restore.2.1 188 = .ok (.idiv, 1) := by decide +kernel
theorem dc_Mo_restore_189 : decode M_Mo_restore.2.1 189 = .ok (.invokevirtual 223, 3) := by decide +kernel
theorem dc_Mo_restore_192 : decode M_Mo_restore.2.1 192 = .ok (.aload_n 0, 1) := by decide +kernel
theorem dc_Mo_restore_193 : decode M_Mo_restore.2.1 193 = .ok (.getfield 7, 3) := by decide +kernel
theorem dc_Mo_restore_196 : decode M_Mo_restore.2.1 196 = .ok (.if_icmp .ge 5, 3) := by decide +kernel
theorem dc_Mo_restore_201 : decode M_Mo_restore.2.1 201 = .ok (.iinc 8 1, 3) := by decide +kernel
theorem dc_Mo_restore_204 : decode M_Mo_restore.2.1 204 = .ok (.goto (-33), 3) := by decide +kernel
theorem dc_Mo_restore_199 : decode M_Mo_restore.2.1 199 = .ok (.iconst (-1), 1) := by decide +kernel
theorem dc_Mo_restore_200 : decode M_Mo_restore.2.1 200 = .ok (.ireturn, 1) := by decide +kernel
theorem dc_Mo_restore_214 : decode M_Mo_restore.2.1 214 = .ok (.iload 9, 2) := by decide +kernel
theorem dc_Mo_restore_216 : decode M_Mo_restore.2.1 216 = .ok (.iload 7, 2) := by decide +kernel
theorem dc_Mo_restore_218 : decode M_Mo_restore.2.1 218 = .ok (.if_icmp .ge 72, 3) := by decide +kernel
theorem dc_Mo_restore_290 : decode M_Mo_restore.2.1 290 = .ok (.aload_n 0, 1) := by decide +kernel
theorem dc_Mo_restore_291 : decode M_Mo_restore.2.1 291 = .ok (.iload 8, 2) := by decide +kernel
theorem dc_Mo_restore_293 : decode M_Mo_restore.2.1 293 = .ok (.putfield 233, 3) := by decide +kernel
theorem kf_9_233 : rF 9 233 = some (9, 35) := by decide +kernel
theorem kp_Mo_restore_9_35 : fpB M_Mo_restore 9 35 = true := by decide +kernel
theorem dc_Mo_restore_296 : decode M_Mo_restore.2.1 296 = .ok (.iconst 0, 1) := by decide +kernel
theorem dc_Mo_restore_297 : decode M_Mo_restore.2.1 297 = .ok (.istore 9, 2) := by decide +kernel
theorem kiI_9_35 {z : Int} : fitB 9 35 (vI z) = true := fi_I (by decide +kernel)
theorem dc_Mo_restore_221 : decode M_Mo_restore.2.1 221 = .ok (.aload_n 0, 1) := by decide +kernel
theorem dc_Mo_restore_222 : decode M_Mo_restore.2.1 222 = .ok (.aload_n 0, 1) := by decide +kernel
theorem dc_Mo_restore_223 : decode M_Mo_restore.2.1 223 = .ok (.getfield 57, 3) := by decide +kernel
theorem dc_Mo_restore_226 : decode M_Mo_restore.2.1 226 = .ok (.iload 9, 2) := by decide +kernel
theorem dc_Mo_restore_228 : decode M_Mo_restore.2.1 228 = .ok (.iaload, 1) := by decide +kernel
theorem dc_Mo_restore_229 : decode M_Mo_restore.2.1 229 = .ok (.bipush 60, 2) := by decide +kernel
theorem dc_Mo_restore_231 : decode M_Mo_restore.2.1 231 = .ok (.idiv, 1) := by decide +kernel
theorem dc_Mo_restore_232 : decode M_Mo_restore.2.1 232 = .ok (.invokevirtual 226, 3) := by decide +kernel
theorem dc_Mo_restore_235 : decode M_Mo_restore.2.1 235 = .ok (.iconst 0, 1) := by decide +kernel
theorem dc_Mo_restore_236 : decode M_Mo_restore.2.1 236 = .ok (.istore 10, 2) := by decide +kernel
theorem dc_Mo_restore_238 : decode M_Mo_restore.2.1 238 = .ok (.iload 10, 2) := by decide +kernel
theorem dc_Mo_restore_240 : decode M_Mo_restore.2.1 240 = .ok (.aload_n 0, 1) := by decide +kernel
theorem dc_Mo_restore_241 : decode M_Mo_restore.2.1 241 = .ok (.getfield 60, 3) := by decide +kernel
theorem dc_Mo_restore_244 : decode M_Mo_restore.2.1 244 = .ok (.iload 9, 2) := by decide +kernel
theorem dc_Mo_restore_246 : decode M_Mo_restore.2.1 246 = .ok (.iaload, 1) := by decide +kernel
theorem dc_Mo_restore_247 : decode M_Mo_restore.2.1 247 = .ok (.if_icmp .ge 37, 3) := by decide +kernel
theorem dc_Mo_restore_284 : decode M_Mo_restore.2.1 284 = .ok (.iinc 9 1, 3) := by decide +kernel
theorem dc_Mo_restore_287 : decode M_Mo_restore.2.1 287 = .ok (.goto (-73), 3) := by decide +kernel
theorem dc_Mo_restore_250 : decode M_Mo_restore.2.1 250 = .ok (.aload_n 0, 1) := by decide +kernel
theorem dc_Mo_restore_251 : decode M_Mo_restore.2.1 251 = .ok (.getfield 110, 3) := by decide +kernel
theorem dc_Mo_restore_254 : decode M_Mo_restore.2.1 254 = .ok (.iload 8, 2) := by decide +kernel
theorem dc_Mo_restore_256 : decode M_Mo_restore.2.1 256 = .ok (.aload_n 0, 1) := by decide +kernel
theorem dc_Mo_restore_257 : decode M_Mo_restore.2.1 257 = .ok (.getfield 101, 3) := by decide +kernel
theorem dc_Mo_restore_260 : decode M_Mo_restore.2.1 260 = .ok (.aload_n 0, 1) := by decide +kernel
theorem dc_Mo_restore_261 : decode M_Mo_restore.2.1 261 = .ok (.getfield 57, 3) := by decide +kernel
theorem dc_Mo_restore_264 : decode M_Mo_restore.2.1 264 = .ok (.iload 9, 2) := by decide +kernel
theorem dc_Mo_restore_266 : decode M_Mo_restore.2.1 266 = .ok (.iaload, 1) := by decide +kernel
theorem dc_Mo_restore_267 : decode M_Mo_restore.2.1 267 = .ok (.bipush 60, 2) := by decide +kernel
theorem dc_Mo_restore_269 : decode M_Mo_restore.2.1 269 = .ok (.irem, 1) := by decide +kernel
theorem dc_Mo_restore_270 : decode M_Mo_restore.2.1 270 = .ok (.iload 10, 2) := by decide +kernel
theorem dc_Mo_restore_272 : decode M_Mo_restore.2.1 272 = .ok (.iadd, 1) := by decide +kernel
theorem dc_Mo_restore_273 : decode M_Mo_restore.2.1 273 = .ok (.iaload, 1) := by decide +kernel
theorem dc_Mo_restore_274 : decode M_Mo_restore.2.1 274 = .ok (.iastore, 1) := by decide +kernel
theorem dc_Mo_restore_275 : decode M_Mo_restore.2.1 275 = .ok (.iinc 8 1, 3) := by decide +kernel
theorem dc_Mo_restore_278 : decode M_Mo_restore.2.1 278 = .ok (.iinc 10 1, 3) := by decide +kernel
theorem dc_Mo_restore_281 : decode M_Mo_restore.2.1 281 = .ok (.goto (-43), 3) := by decide +kernel
theorem dc_Mo_restore_299 : decode M_Mo_restore.2.1 299 = .ok (.iload 9, 2) := by decide +kernel
theorem dc_Mo_restore_301 : decode M_Mo_restore.2.1 301 = .ok (.iload 8, 2) := by decide +kernel
theorem dc_Mo_restore_303 : decode M_Mo_restore.2.1 303 = .ok (.if_icmp .ge 23, 3) := by decide +kernel
theorem dc_Mo_restore_326 : decode M_Mo_restore.2.1 326 = .ok (.iload 8, 2) := by decide +kernel
theorem dc_Mo_restore_328 : decode M_Mo_restore.2.1 328 = .ok (.ireturn, 1) := by decide +kernel
theorem dc_Mo_restore_306 : decode M_Mo_restore.2.1 306 = .ok (.aload_n 0, 1) := by decide +kernel
theorem dc_Mo_restore_307 : decode M_Mo_restore.2.1 307 = .ok (.getfield 107, 3) := by decide +kernel
theorem dc_Mo_restore_310 : decode M_Mo_restore.2.1 310 = .ok (.iload 9, 2) := by decide +kernel
theorem dc_Mo_restore_312 : decode M_Mo_restore.2.1 312 = .ok (.aload_n 0, 1) := by decide +kernel
theorem dc_Mo_restore_313 : decode M_Mo_restore.2.1 313 = .ok (.getfield 110, 3) := by decide +kernel
theorem dc_Mo_restore_316 : decode M_Mo_restore.2.1 316 = .ok (.iload 9, 2) := by decide +kernel
theorem dc_Mo_restore_318 : decode M_Mo_restore.2.1 318 = .ok (.iaload, 1) := by decide +kernel
theorem dc_Mo_restore_319 : decode M_Mo_restore.2.1 319 = .ok (.iastore, 1) := by decide +kernel
theorem dc_Mo_restore_320 : decode M_Mo_restore.2.1 320 = .ok (.iinc 9 1, 3) := by decide +kernel
theorem dc_Mo_restore_323 : decode M_Mo_restore.2.1 323 = .ok (.goto (-24), 3) := by decide +kernel
theorem dc_Mo_slotOf_0 : decode M_Mo_slotOf.2.1 0 = .ok (.iconst (-1), 1) := by decide +kernel
theorem dc_Mo_slotOf_1 : decode M_Mo_slotOf.2.1 1 = .ok (.istore_n 3, 1) := by decide +kernel
theorem dc_Mo_slotOf_2 : decode M_Mo_slotOf.2.1 2 = .ok (.bipush 6, 2) := by decide +kernel
theorem dc_Mo_slotOf_4 : decode M_Mo_slotOf.2.1 4 = .ok (.iload_n 1, 1) := by decide +kernel
theorem dc_Mo_slotOf_5 : decode M_Mo_slotOf.2.1 5 = .ok (.imul, 1) := by decide +kernel
theorem dc_Mo_slotOf_6 : decode M_Mo_slotOf.2.1 6 = .ok (.istore 4, 2) := by decide +kernel
theorem dc_Mo_slotOf_8 : decode M_Mo_slotOf.2.1 8 = .ok (.iload 4, 2) := by decide +kernel
theorem dc_Mo_slotOf_10 : decode M_Mo_slotOf.2.1 10 = .ok (.bipush 6, 2) := by decide +kernel
theorem dc_Mo_slotOf_12 : decode M_Mo_slotOf.2.1 12 = .ok (.iload_n 1, 1) := by decide +kernel
theorem dc_Mo_slotOf_13 : decode M_Mo_slotOf.2.1 13 = .ok (.imul, 1) := by decide +kernel
theorem dc_Mo_slotOf_14 : decode M_Mo_slotOf.2.1 14 = .ok (.bipush 6, 2) := by decide +kernel
theorem dc_Mo_slotOf_16 : decode M_Mo_slotOf.2.1 16 = .ok (.iadd, 1) := by decide +kernel
theorem dc_Mo_slotOf_17 : decode M_Mo_slotOf.2.1 17 = .ok (.if_icmp .ge 31, 3) := by decide +kernel
theorem dc_Mo_slotOf_20 : decode M_Mo_slotOf.2.1 20 = .ok (.iload_n 2, 1) := by decide +kernel
theorem dc_Mo_slotOf_21 : decode M_Mo_slotOf.2.1 21 = .ok (.ifCond .lt 27, 3) := by decide +kernel
theorem dc_Mo_slotOf_24 : decode M_Mo_slotOf.2.1 24 = .ok (.aload_n 0, 1) := by decide +kernel
theorem dc_Mo_slotOf_25 : decode M_Mo_slotOf.2.1 25 = .ok (.getfield 51, 3) := by decide +kernel
theorem dc_Mo_slotOf_28 : decode M_Mo_slotOf.2.1 28 = .ok (.iload 4, 2) := by decide +kernel
theorem dc_Mo_slotOf_30 : decode M_Mo_slotOf.2.1 30 = .ok (.iaload, 1) := by decide +kernel
theorem dc_Mo_slotOf_31 : decode M_Mo_slotOf.2.1 31 = .ok (.iload_n 2, 1) := by decide +kernel
theorem dc_Mo_slotOf_32 : decode M_Mo_slotOf.2.1 32 = .ok (.if_icmp .ne 8, 3) := by decide +kernel
theorem dc_Mo_slotOf_40 : decode M_Mo_slotOf.2.1 40 = .ok (.iload_n 3, 1) := by decide +kernel
theorem dc_Mo_slotOf_35 : decode M_Mo_slotOf.2.1 35 = .ok (.iload 4, 2) := by decide +kernel
theorem dc_Mo_slotOf_37 : decode M_Mo_slotOf.2.1 37 = .ok (.goto 4, 3) := by decide +kernel
theorem dc_Mo_slotOf_41 : decode M_Mo_slotOf.2.1 41 = .ok (.istore_n 3, 1) := by decide +kernel
theorem dc_Mo_slotOf_42 : decode M_Mo_slotOf.2.1 42 = .ok (.iinc 4 1, 3) := by decide +kernel
theorem dc_Mo_slotOf_45 : decode M_Mo_slotOf.2.1 45 = .ok (.goto (-37), 3) := by decide +kernel
theorem dc_Mo_slotOf_48 : decode M_Mo_slotOf.2.1 48 = .ok (.iload_n 3, 1) := by decide +kernel
theorem dc_Mo_slotOf_49 : decode M_Mo_slotOf.2.1 49 = .ok (.ireturn, 1) := by decide +kernel
theorem dc_Mo_restored_0 : decode M_Mo_restored.2.1 0 = .ok (.aload_n 0, 1) := by decide +kernel
theorem dc_Mo_restored_1 : decode M_Mo_restored.2.1 1 = .ok (.iconst 0, 1) := by decide +kernel
theorem dc_Mo_restored_2 : decode M_Mo_restored.2.1 2 = .ok (.putfield 113, 3) := by decide +kernel
theorem kp_Mo_restored_9_0 : fpB M_Mo_restored 9 0 = true := by decide +kernel
theorem dc_Mo_restored_5 : decode M_Mo_restored.2.1 5 = .ok (.iload_n 1, 1) := by decide +kernel
theorem dc_Mo_restored_6 : decode M_Mo_restored.2.1 6 = .ok (.iconst 0, 1) := by decide +kernel
theorem dc_Mo_restored_7 : decode M_Mo_restored.2.1 7 = .ok (.aload_n 0, 1) := by decide +kernel
theorem dc_Mo_restored_8 : decode M_Mo_restored.2.1 8 = .ok (.getfield 233, 3) := by decide +kernel
theorem dc_Mo_restored_11 : decode M_Mo_restored.2.1 11 = .ok (.iconst 1, 1) := by decide +kernel
theorem dc_Mo_restored_12 : decode M_Mo_restored.2.1 12 = .ok (.isub, 1) := by decide +kernel
theorem dc_Mo_restored_13 : decode M_Mo_restored.2.1 13 = .ok (.invokestatic 116, 3) := by decide +kernel
theorem dc_Mo_restored_16 : decode M_Mo_restored.2.1 16 = .ok (.ifCond .eq 12, 3) := by decide +kernel
theorem dc_Mo_restored_28 : decode M_Mo_restored.2.1 28 = .ok (.iconst (-1), 1) := by decide +kernel
theorem dc_Mo_restored_19 : decode M_Mo_restored.2.1 19 = .ok (.aload_n 0, 1) := by decide +kernel
theorem dc_Mo_restored_20 : decode M_Mo_restored.2.1 20 = .ok (.getfield 107, 3) := by decide +kernel
theorem dc_Mo_restored_23 : decode M_Mo_restored.2.1 23 = .ok (.iload_n 1, 1) := by decide +kernel
theorem dc_Mo_restored_24 : decode M_Mo_restored.2.1 24 = .ok (.iaload, 1) := by decide +kernel
theorem dc_Mo_restored_25 : decode M_Mo_restored.2.1 25 = .ok (.goto 4, 3) := by decide +kernel
theorem dc_Mo_restored_29 : decode M_Mo_restored.2.1 29 = .ok (.ireturn, 1) := by decide +kernel
theorem dc_Mo_forget_0 : decode M_Mo_forget.2.1 0 = .ok (.aload_n 0, 1) := by decide +kernel
theorem dc_Mo_forget_1 : decode M_Mo_forget.2.1 1 = .ok (.iload_n 1, 1) := by decide +kernel
theorem dc_Mo_forget_2 : decode M_Mo_forget.2.1 2 = .ok (.invokevirtual 120, 3) := by decide +kernel
theorem dc_Mo_forget_5 : decode M_Mo_forget.2.1 5 = .ok (.ifCond .eq 12, 3) := by decide +kernel
theorem dc_Mo_forget_17 : decode M_Mo_forget.2.1 17 = .ok (.iconst (-1), 1) := by decide +kernel
theorem dc_Mo_forget_8 : decode M_Mo_forget.2.1 8 = .ok (.aload_n 0, 1) := by decide +kernel
theorem dc_Mo_forget_9 : decode M_Mo_forget.2.1 9 = .ok (.iload_n 1, 1) := by decide +kernel
theorem dc_Mo_forget_10 : decode M_Mo_forget.2.1 10 = .ok (.iload_n 2, 1) := by decide +kernel
theorem dc_Mo_forget_11 : decode M_Mo_forget.2.1 11 = .ok (.invokevirtual 230, 3) := by decide +kernel
theorem dc_Mo_forget_14 : decode M_Mo_forget.2.1 14 = .ok (.goto 4, 3) := by decide +kernel
theorem dc_Mo_forget_18 : decode M_Mo_forget.2.1 18 = .ok (.istore_n 3, 1) := by decide +kernel
theorem dc_Mo_forget_19 : decode M_Mo_forget.2.1 19 = .ok (.aload_n 0, 1) := by decide +kernel
theorem dc_Mo_forget_20 : decode M_Mo_forget.2.1 20 = .ok (.iload_n 3, 1) := by decide +kernel
theorem dc_Mo_forget_21 : decode M_Mo_forget.2.1 21 = .ok (.ifCond .ge 7, 3) := by decide +kernel
theorem dc_Mo_forget_28 : decode M_Mo_forget.2.1 28 = .ok (.aload_n 0, 1) := by decide +kernel
theorem dc_Mo_forget_29 : decode M_Mo_forget.2.1 29 = .ok (.getfield 24, 3) := by decide +kernel
theorem dc_Mo_forget_32 : decode M_Mo_forget.2.1 32 = .ok (.iload_n 1, 1) := by decide +kernel
theorem dc_Mo_forget_33 : decode M_Mo_forget.2.1 33 = .ok (.baload, 1) := by decide +kernel
theorem dc_Mo_forget_34 : decode M_Mo_forget.2.1 34 = .ok (.ifCond .eq 7, 3) := by decide +kernel
theorem dc_Mo_forget_41 : decode M_Mo_forget.2.1 41 = .ok (.iconst 0, 1) := by decide +kernel
theorem dc_Mo_forget_37 : decode M_Mo_forget.2.1 37 = .ok (.iconst 2, 1) := by decide +kernel
theorem dc_Mo_forget_38 : decode M_Mo_forget.2.1 38 = .ok (.goto 4, 3) := by decide +kernel
theorem dc_Mo_forget_24 : decode M_Mo_forget.2.1 24 = .ok (.iconst 1, 1) := by decide +kernel
theorem dc_Mo_forget_25 : decode M_Mo_forget.2.1 25 = .ok (.goto 17, 3) := by decide +kernel
theorem dc_Mo_forget_42 : decode M_Mo_forget.2.1 42 = .ok (.invokevirtual 132, 3) := by decide +kernel
theorem dc_Mo_forget_45 : decode M_Mo_forget.2.1 45 = .ok (.ifCond .eq 5, 3) := by decide +kernel
theorem dc_Mo_forget_50 : decode M_Mo_forget.2.1 50 = .ok (.aload_n 0, 1) := by decide +kernel
theorem dc_Mo_forget_51 : decode M_Mo_forget.2.1 51 = .ok (.getfield 51, 3) := by decide +kernel
theorem dc_Mo_forget_54 : decode M_Mo_forget.2.1 54 = .ok (.iload_n 3, 1) := by decide +kernel
theorem dc_Mo_forget_55 : decode M_Mo_forget.2.1 55 = .ok (.iconst (-1), 1) := by decide +kernel
theorem dc_Mo_forget_56 : decode M_Mo_forget.2.1 56 = .ok (.iastore, 1) := by decide +kernel
theorem dc_Mo_forget_57 : decode M_Mo_forget.2.1 57 = .ok (.iconst 0, 1) := by decide +kernel
theorem dc_Mo_forget_58 : decode M_Mo_forget.2.1 58 = .ok (.istore 4, 2) := by decide +kernel
theorem dc_Mo_forget_60 : decode M_Mo_forget.2.1 60 = .ok (.bipush 40, 2) := by decide +kernel
theorem dc_Mo_forget_62 : decode M_Mo_forget.2.1 62 = .ok (.iload_n 1, 1) := by decide +kernel
theorem dc_Mo_forget_63 : decode M_Mo_forget.2.1 63 = .ok (.imul, 1) := by decide +kernel
theorem dc_Mo_forget_64 : decode M_Mo_forget.2.1 64 = .ok (.istore 5, 2) := by decide +kernel
theorem dc_Mo_forget_48 : decode M_Mo_forget.2.1 48 = .ok (.iconst 0, 1) := by decide +kernel
theorem dc_Mo_forget_49 : decode M_Mo_forget.2.1 49 = .ok (.ireturn, 1) := by decide +kernel
theorem dc_Mo_forget_66 : decode M_Mo_forget.2.1 66 = .ok (.iload 5, 2) := by decide +kernel
theorem dc_Mo_forget_68 : decode M_Mo_forget.2.1 68 = .ok (.bipush 40, 2) := by decide +kernel
theorem dc_Mo_forget_70 : decode M_Mo_forget.2.1 70 = .ok (.iload_n 1, 1) := by decide +kernel
theorem dc_Mo_forget_71 : decode M_Mo_forget.2.1 71 = .ok (.imul, 1) := by decide +kernel
theorem dc_Mo_forget_72 : decode M_Mo_forget.2.1 72 = .ok (.aload_n 0, 1) := by decide +kernel
theorem dc_Mo_forget_73 : decode M_Mo_forget.2.1 73 = .ok (.getfield 63, 3) := by decide +kernel
theorem dc_Mo_forget_76 : decode M_Mo_forget.2.1 76 = .ok (.iload_n 1, 1) := by decide +kernel
theorem dc_Mo_forget_77 : decode M_Mo_forget.2.1 77 = .ok (.iaload, 1) := by decide +kernel
theorem dc_Mo_forget_78 : decode M_Mo_forget.2.1 78 = .ok (.iadd, 1) := by decide +kernel
theorem dc_Mo_forget_79 : decode M_Mo_forget.2.1 79 = .ok (.if_icmp .ge 89, 3) := by decide +kernel
theorem dc_Mo_forget_168 : decode M_Mo_forget.2.1 168 = .ok (.iload 4, 2) := by decide +kernel
theorem dc_Mo_forget_170 : decode M_Mo_forget.2.1 170 = .ok (.ireturn, 1) := by decide +kernel
theorem dc_Mo_forget_82 : decode M_Mo_forget.2.1 82 = .ok (.aload_n 0, 1) := by decide +kernel
theorem dc_Mo_forget_83 : decode M_Mo_forget.2.1 83 = .ok (.getfield 66, 3) := by decide +kernel
theorem dc_Mo_forget_86 : decode M_Mo_forget.2.1 86 = .ok (.iload 5, 2) := by decide +kernel
theorem dc_Mo_forget_88 : decode M_Mo_forget.2.1 88 = .ok (.baload, 1) := by decide +kernel
theorem dc_Mo_forget_89 : decode M_Mo_forget.2.1 89 = .ok (.ifCond .ne 73, 3) := by decide +kernel
theorem dc_Mo_forget_92 : decode M_Mo_forget.2.1 92 = .ok (.aload_n 0, 1) := by decide +kernel
theorem dc_Mo_forget_93 : decode M_Mo_forget.2.1 93 = .ok (.iload_n 1, 1) := by decide +kernel
theorem dc_Mo_forget_94 : decode M_Mo_forget.2.1 94 = .ok (.iload 5, 2) := by decide +kernel
theorem dc_Mo_forget_96 : decode M_Mo_forget.2.1 96 = .ok (.invokevirtual 239, 3) := by decide +kernel
theorem km_9_239 : rM 9 239 = some (1, M_Mo_isUsed) := rM_at (j := 179) (p := 1278) (by decide +kernel) rfl
theorem np_Mo_isUsed : nP M_Mo_isUsed = 2 := by decide +kernel
theorem dc_Mo_forget_99 : decode M_Mo_forget.2.1 99 = .ok (.ifCond .ne 63, 3) := by decide +kernel
theorem dc_Mo_forget_102 : decode M_Mo_forget.2.1 102 = .ok (.aload_n 0, 1) := by decide +kernel
theorem dc_Mo_forget_103 : decode M_Mo_forget.2.1 103 = .ok (.getfield 66, 3) := by decide +kernel
theorem dc_Mo_forget_106 : decode M_Mo_forget.2.1 106 = .ok (.iload 5, 2) := by decide +kernel
theorem dc_Mo_forget_108 : decode M_Mo_forget.2.1 108 = .ok (.iconst 1, 1) := by decide +kernel
theorem dc_Mo_forget_109 : decode M_Mo_forget.2.1 109 = .ok (.bastore, 1) := by decide +kernel
theorem dc_Mo_forget_110 : decode M_Mo_forget.2.1 110 = .ok (.aload_n 0, 1) := by decide +kernel
theorem dc_Mo_forget_111 : decode M_Mo_forget.2.1 111 = .ok (.getfield 69, 3) := by decide +kernel
theorem dc_Mo_forget_114 : decode M_Mo_forget.2.1 114 = .ok (.iload 5, 2) := by decide +kernel
theorem dc_Mo_forget_116 : decode M_Mo_forget.2.1 116 = .ok (.iconst 0, 1) := by decide +kernel
theorem dc_Mo_forget_117 : decode M_Mo_forget.2.1 117 = .ok (.bastore, 1) := by decide +kernel
theorem dc_Mo_forget_118 : decode M_Mo_forget.2.1 118 = .ok (.bipush 12, 2) := by decide +kernel
theorem dc_Mo_forget_120 : decode M_Mo_forget.2.1 120 = .ok (.iload 5, 2) := by decide +kernel
theorem dc_Mo_forget_122 : decode M_Mo_forget.2.1 122 = .ok (.imul, 1) := by decide +kernel
theorem dc_Mo_forget_123 : decode M_Mo_forget.2.1 123 = .ok (.istore 6, 2) := by decide +kernel
theorem dc_Mo_forget_125 : decode M_Mo_forget.2.1 125 = .ok (.iload 6, 2) := by decide +kernel
theorem dc_Mo_forget_127 : decode M_Mo_forget.2.1 127 = .ok (.bipush 12, 2) := by decide +kernel
theorem dc_Mo_forget_129 : decode M_Mo_forget.2.1 129 = .ok (.iload 5, 2) := by decide +kernel
theorem dc_Mo_forget_131 : decode M_Mo_forget.2.1 131 = .ok (.imul, 1) := by decide +kernel
theorem dc_Mo_forget_132 : decode M_Mo_forget.2.1 132 = .ok (.bipush 12, 2) := by decide +kernel
theorem dc_Mo_forget_134 : decode M_Mo_forget.2.1 134 = .ok (.iadd, 1) := by decide +kernel
theorem dc_Mo_forget_135 : decode M_Mo_forget.2.1 135 = .ok (.if_icmp .ge 24, 3) := by decide +kernel
theorem dc_Mo_forget_159 : decode M_Mo_forget.2.1 159 = .ok (.iinc 4 1, 3) := by decide +kernel
theorem dc_Mo_forget_138 : decode M_Mo_forget.2.1 138 = .ok (.aload_n 0, 1) := by decide +kernel
theorem dc_Mo_forget_139 : decode M_Mo_forget.2.1 139 = .ok (.iload_n 1, 1) := by decide +kernel
theorem dc_Mo_forget_140 : decode M_Mo_forget.2.1 140 = .ok (.iload 6, 2) := by decide +kernel
theorem dc_Mo_forget_142 : decode M_Mo_forget.2.1 142 = .ok (.invokevirtual 209, 3) := by decide +kernel
theorem dc_Mo_forget_145 : decode M_Mo_forget.2.1 145 = .ok (.aload_n 0, 1) := by decide +kernel
theorem dc_Mo_forget_146 : decode M_Mo_forget.2.1 146 = .ok (.getfield 78, 3) := by decide +kernel
theorem dc_Mo_forget_149 : decode M_Mo_forget.2.1 149 = .ok (.iload 6, 2) := by decide +kernel
theorem dc_Mo_forget_151 : decode M_Mo_forget.2.1 151 = .ok (.iconst (-1), 1) := by decide +kernel
theorem dc_Mo_forget_152 : decode M_Mo_forget.2.1 152 = .ok (.iastore, 1) := by decide +kernel
theorem dc_Mo_forget_153 : decode M_Mo_forget.2.1 153 = .ok (.iinc 6 1, 3) := by decide +kernel
theorem dc_Mo_forget_156 : decode M_Mo_forget.2.1 156 = .ok (.goto (-31), 3) := by decide +kernel
theorem dc_Mo_forget_162 : decode M_Mo_forget.2.1 162 = .ok (.iinc 5 1, 3) := by decide +kernel
theorem dc_Mo_forget_165 : decode M_Mo_forget.2.1 165 = .ok (.goto (-99), 3) := by decide +kernel
theorem dc_Mo_isUsed_0 : decode M_Mo_isUsed.2.1 0 = .ok (.iconst 0, 1) := by decide +kernel
theorem dc_Mo_isUsed_1 : decode M_Mo_isUsed.2.1 1 = .ok (.istore_n 3, 1) := by decide +kernel
theorem dc_Mo_isUsed_2 : decode M_Mo_isUsed.2.1 2 = .ok (.bipush 6, 2) := by decide +kernel
theorem dc_Mo_isUsed_4 : decode M_Mo_isUsed.2.1 4 = .ok (.iload_n 1, 1) := by decide +kernel
theorem dc_Mo_isUsed_5 : decode M_Mo_isUsed.2.1 5 = .ok (.imul, 1) := by decide +kernel
theorem dc_Mo_isUsed_6 : decode M_Mo_isUsed.2.1 6 = .ok (.istore 4, 2) := by decide +kernel
theorem dc_Mo_isUsed_8 : decode M_Mo_isUsed.2.1 8 = .ok (.iload 4, 2) := by decide +kernel
theorem dc_Mo_isUsed_10 : decode M_Mo_isUsed.2.1 10 = .ok (.bipush 6, 2) := by decide +kernel
theorem dc_Mo_isUsed_12 : decode M_Mo_isUsed.2.1 12 = .ok (.iload_n 1, 1) := by decide +kernel
theorem dc_Mo_isUsed_13 : decode M_Mo_isUsed.2.1 13 = .ok (.imul, 1) := by decide +kernel
theorem dc_Mo_isUsed_14 : decode M_Mo_isUsed.2.1 14 = .ok (.bipush 6, 2) := by decide +kernel
theorem dc_Mo_isUsed_16 : decode M_Mo_isUsed.2.1 16 = .ok (.iadd, 1) := by decide +kernel
theorem dc_Mo_isUsed_17 : decode M_Mo_isUsed.2.1 17 = .ok (.if_icmp .ge 79, 3) := by decide +kernel
theorem dc_Mo_isUsed_96 : decode M_Mo_isUsed.2.1 96 = .ok (.iload_n 3, 1) := by decide +kernel
theorem dc_Mo_isUsed_97 : decode M_Mo_isUsed.2.1 97 = .ok (.ireturn, 1) := by decide +kernel
theorem dc_Mo_isUsed_20 : decode M_Mo_isUsed.2.1 20 = .ok (.aload_n 0, 1) := by decide +kernel
theorem dc_Mo_isUsed_21 : decode M_Mo_isUsed.2.1 21 = .ok (.getfield 51, 3) := by decide +kernel
theorem dc_Mo_isUsed_24 : decode M_Mo_isUsed.2.1 24 = .ok (.iload 4, 2) := by decide +kernel
theorem dc_Mo_isUsed_26 : decode M_Mo_isUsed.2.1 26 = .ok (.iaload, 1) := by decide +kernel
theorem dc_Mo_isUsed_27 : decode M_Mo_isUsed.2.1 27 = .ok (.ifCond .lt 63, 3) := by decide +kernel
theorem dc_Mo_isUsed_30 : decode M_Mo_isUsed.2.1 30 = .ok (.aload_n 0, 1) := by decide +kernel
theorem dc_Mo_isUsed_31 : decode M_Mo_isUsed.2.1 31 = .ok (.iload 4, 2) := by decide +kernel
theorem dc_Mo_isUsed_33 : decode M_Mo_isUsed.2.1 33 = .ok (.invokevirtual 236, 3) := by decide +kernel
theorem km_9_236 : rM 9 236 = some (1, M_Mo_chunksOf) := rM_at (j := 180) (p := 1282) (by decide +kernel) rfl
theorem np_Mo_chunksOf : nP M_Mo_chunksOf = 1 := by decide +kernel
theorem dc_Mo_isUsed_36 : decode M_Mo_isUsed.2.1 36 = .ok (.istore 5, 2) := by decide +kernel
theorem dc_Mo_isUsed_38 : decode M_Mo_isUsed.2.1 38 = .ok (.sipush 500, 3) := by decide +kernel
theorem dc_Mo_isUsed_41 : decode M_Mo_isUsed.2.1 41 = .ok (.iload 4, 2) := by decide +kernel
theorem dc_Mo_isUsed_43 : decode M_Mo_isUsed.2.1 43 = .ok (.imul, 1) := by decide +kernel
theorem dc_Mo_isUsed_44 : decode M_Mo_isUsed.2.1 44 = .ok (.istore 6, 2) := by decide +kernel
theorem dc_Mo_isUsed_46 : decode M_Mo_isUsed.2.1 46 = .ok (.iload 6, 2) := by decide +kernel
theorem dc_Mo_isUsed_48 : decode M_Mo_isUsed.2.1 48 = .ok (.sipush 500, 3) := by decide +kernel
theorem dc_Mo_isUsed_51 : decode M_Mo_isUsed.2.1 51 = .ok (.iload 4, 2) := by decide +kernel
theorem dc_Mo_isUsed_53 : decode M_Mo_isUsed.2.1 53 = .ok (.imul, 1) := by decide +kernel
theorem dc_Mo_isUsed_54 : decode M_Mo_isUsed.2.1 54 = .ok (.iload 5, 2) := by decide +kernel
theorem dc_Mo_isUsed_56 : decode M_Mo_isUsed.2.1 56 = .ok (.iadd, 1) := by decide +kernel
theorem dc_Mo_isUsed_57 : decode M_Mo_isUsed.2.1 57 = .ok (.if_icmp .ge 33, 3) := by decide +kernel
theorem dc_Mo_isUsed_60 : decode M_Mo_isUsed.2.1 60 = .ok (.iload_n 3, 1) := by decide +kernel
theorem dc_Mo_isUsed_61 : decode M_Mo_isUsed.2.1 61 = .ok (.ifCond .ne 17, 3) := by decide +kernel
theorem dc_Mo_isUsed_64 : decode M_Mo_isUsed.2.1 64 = .ok (.aload_n 0, 1) := by decide +kernel
theorem dc_Mo_isUsed_65 : decode M_Mo_isUsed.2.1 65 = .ok (.getfield 57, 3) := by decide +kernel
theorem dc_Mo_isUsed_68 : decode M_Mo_isUsed.2.1 68 = .ok (.iload 6, 2) := by decide +kernel
theorem dc_Mo_isUsed_70 : decode M_Mo_isUsed.2.1 70 = .ok (.iaload, 1) := by decide +kernel
theorem dc_Mo_isUsed_71 : decode M_Mo_isUsed.2.1 71 = .ok (.bipush 60, 2) := by decide +kernel
theorem dc_Mo_isUsed_73 : decode M_Mo_isUsed.2.1 73 = .ok (.idiv, 1) := by decide +kernel
theorem dc_Mo_isUsed_74 : decode M_Mo_isUsed.2.1 74 = .ok (.iload_n 2, 1) := by decide +kernel
theorem dc_Mo_isUsed_75 : decode M_Mo_isUsed.2.1 75 = .ok (.if_icmp .ne 7, 3) := by decide +kernel
theorem dc_Mo_isUsed_82 : decode M_Mo_isUsed.2.1 82 = .ok (.iconst 0, 1) := by decide +kernel
theorem dc_Mo_isUsed_78 : decode M_Mo_isUsed.2.1 78 = .ok (.iconst 1, 1) := by decide +kernel
theorem dc_Mo_isUsed_79 : decode M_Mo_isUsed.2.1 79 = .ok (.goto 4, 3) := by decide +kernel
theorem dc_Mo_isUsed_83 : decode M_Mo_isUsed.2.1 83 = .ok (.istore_n 3, 1) := by decide +kernel
theorem dc_Mo_isUsed_84 : decode M_Mo_isUsed.2.1 84 = .ok (.iinc 6 1, 3) := by decide +kernel
theorem dc_Mo_isUsed_87 : decode M_Mo_isUsed.2.1 87 = .ok (.goto (-41), 3) := by decide +kernel
theorem dc_Mo_isUsed_90 : decode M_Mo_isUsed.2.1 90 = .ok (.iinc 4 1, 3) := by decide +kernel
theorem dc_Mo_isUsed_93 : decode M_Mo_isUsed.2.1 93 = .ok (.goto (-85), 3) := by decide +kernel
theorem dc_Mo_chunksOf_0 : decode M_Mo_chunksOf.2.1 0 = .ok (.iconst 0, 1) := by decide +kernel
theorem dc_Mo_chunksOf_1 : decode M_Mo_chunksOf.2.1 1 = .ok (.istore_n 2, 1) := by decide +kernel
theorem dc_Mo_chunksOf_2 : decode M_Mo_chunksOf.2.1 2 = .ok (.iconst 0, 1) := by decide +kernel
theorem dc_Mo_chunksOf_3 : decode M_Mo_chunksOf.2.1 3 = .ok (.istore_n 3, 1) := by decide +kernel
theorem dc_Mo_chunksOf_4 : decode M_Mo_chunksOf.2.1 4 = .ok (.iload_n 3, 1) := by decide +kernel
theorem dc_Mo_chunksOf_5 : decode M_Mo_chunksOf.2.1 5 = .ok (.bipush 10, 2) := by decide +kernel
theorem dc_Mo_chunksOf_7 : decode M_Mo_chunksOf.2.1 7 = .ok (.if_icmp .ge 41, 3) := by decide +kernel
theorem dc_Mo_chunksOf_48 : decode M_Mo_chunksOf.2.1 48 = .ok (.iload_n 2, 1) := by decide +kernel
theorem dc_Mo_chunksOf_49 : decode M_Mo_chunksOf.2.1 49 = .ok (.ireturn, 1) := by decide +kernel
theorem dc_Mo_chunksOf_10 : decode M_Mo_chunksOf.2.1 10 = .ok (.iload_n 2, 1) := by decide +kernel
theorem dc_Mo_chunksOf_11 : decode M_Mo_chunksOf.2.1 11 = .ok (.aload_n 0, 1) := by decide +kernel
theorem dc_Mo_chunksOf_12 : decode M_Mo_chunksOf.2.1 12 = .ok (.getfield 54, 3) := by decide +kernel
theorem dc_Mo_chunksOf_15 : decode M_Mo_chunksOf.2.1 15 = .ok (.bipush 10, 2) := by decide +kernel
theorem dc_Mo_chunksOf_17 : decode M_Mo_chunksOf.2.1 17 = .ok (.iload_n 1, 1) := by decide +kernel
theorem dc_Mo_chunksOf_18 : decode M_Mo_chunksOf.2.1 18 = .ok (.imul, 1) := by decide +kernel
theorem dc_Mo_chunksOf_19 : decode M_Mo_chunksOf.2.1 19 = .ok (.iload_n 3, 1) := by decide +kernel
theorem dc_Mo_chunksOf_20 : decode M_Mo_chunksOf.2.1 20 = .ok (.iadd, 1) := by decide +kernel
theorem dc_Mo_chunksOf_21 : decode M_Mo_chunksOf.2.1 21 = .ok (.iaload, 1) := by decide +kernel
theorem dc_Mo_chunksOf_22 : decode M_Mo_chunksOf.2.1 22 = .ok (.ifCond .le 17, 3) := by decide +kernel
theorem dc_Mo_chunksOf_39 : decode M_Mo_chunksOf.2.1 39 = .ok (.iconst 0, 1) := by decide +kernel
theorem dc_Mo_chunksOf_25 : decode M_Mo_chunksOf.2.1 25 = .ok (.aload_n 0, 1) := by decide +kernel
theorem dc_Mo_chunksOf_26 : decode M_Mo_chunksOf.2.1 26 = .ok (.getfield 54, 3) := by decide +kernel
theorem dc_Mo_chunksOf_29 : decode M_Mo_chunksOf.2.1 29 = .ok (.bipush 10, 2) := by decide +kernel
theorem dc_Mo_chunksOf_31 : decode M_Mo_chunksOf.2.1 31 = .ok (.iload_n 1, 1) := by decide +kernel
theorem dc_Mo_chunksOf_32 : decode M_Mo_chunksOf.2.1 32 = .ok (.imul, 1) := by decide +kernel
theorem dc_Mo_chunksOf_33 : decode M_Mo_chunksOf.2.1 33 = .ok (.iload_n 3, 1) := by decide +kernel
theorem dc_Mo_chunksOf_34 : decode M_Mo_chunksOf.2.1 34 = .ok (.iadd, 1) := by decide +kernel
theorem dc_Mo_chunksOf_35 : decode M_Mo_chunksOf.2.1 35 = .ok (.iaload, 1) := by decide +kernel
theorem dc_Mo_chunksOf_36 : decode M_Mo_chunksOf.2.1 36 = .ok (.goto 4, 3) := by decide +kernel
theorem dc_Mo_chunksOf_40 : decode M_Mo_chunksOf.2.1 40 = .ok (.iadd, 1) := by decide +kernel
theorem dc_Mo_chunksOf_41 : decode M_Mo_chunksOf.2.1 41 = .ok (.istore_n 2, 1) := by decide +kernel
theorem dc_Mo_chunksOf_42 : decode M_Mo_chunksOf.2.1 42 = .ok (.iinc 3 1, 3) := by decide +kernel
theorem dc_Mo_chunksOf_45 : decode M_Mo_chunksOf.2.1 45 = .ok (.goto (-41), 3) := by decide +kernel
theorem dc_Mo_health_0 : decode M_Mo_health.2.1 0 = .ok (.aload_n 0, 1) := by decide +kernel
theorem dc_Mo_health_1 : decode M_Mo_health.2.1 1 = .ok (.aload_n 0, 1) := by decide +kernel
theorem dc_Mo_health_2 : decode M_Mo_health.2.1 2 = .ok (.iload_n 1, 1) := by decide +kernel
theorem dc_Mo_health_3 : decode M_Mo_health.2.1 3 = .ok (.iload_n 2, 1) := by decide +kernel
theorem dc_Mo_health_4 : decode M_Mo_health.2.1 4 = .ok (.invokevirtual 124, 3) := by decide +kernel
theorem dc_Mo_health_7 : decode M_Mo_health.2.1 7 = .ok (.ifCond .eq 7, 3) := by decide +kernel
theorem dc_Mo_health_14 : decode M_Mo_health.2.1 14 = .ok (.iconst 1, 1) := by decide +kernel
theorem dc_Mo_health_10 : decode M_Mo_health.2.1 10 = .ok (.iconst 0, 1) := by decide +kernel
theorem dc_Mo_health_11 : decode M_Mo_health.2.1 11 = .ok (.goto 4, 3) := by decide +kernel
theorem dc_Mo_health_15 : decode M_Mo_health.2.1 15 = .ok (.invokevirtual 132, 3) := by decide +kernel
theorem dc_Mo_health_18 : decode M_Mo_health.2.1 18 = .ok (.ifCond .eq 5, 3) := by decide +kernel
theorem dc_Mo_health_23 : decode M_Mo_health.2.1 23 = .ok (.bipush 40, 2) := by decide +kernel
theorem dc_Mo_health_25 : decode M_Mo_health.2.1 25 = .ok (.iload_n 1, 1) := by decide +kernel
theorem dc_Mo_health_26 : decode M_Mo_health.2.1 26 = .ok (.imul, 1) := by decide +kernel
theorem dc_Mo_health_27 : decode M_Mo_health.2.1 27 = .ok (.iload_n 2, 1) := by decide +kernel
theorem dc_Mo_health_28 : decode M_Mo_health.2.1 28 = .ok (.iadd, 1) := by decide +kernel
theorem dc_Mo_health_29 : decode M_Mo_health.2.1 29 = .ok (.istore_n 3, 1) := by decide +kernel
theorem dc_Mo_health_30 : decode M_Mo_health.2.1 30 = .ok (.iconst 0, 1) := by decide +kernel
theorem dc_Mo_health_31 : decode M_Mo_health.2.1 31 = .ok (.istore 4, 2) := by decide +kernel
theorem dc_Mo_health_33 : decode M_Mo_health.2.1 33 = .ok (.iconst 0, 1) := by decide +kernel
theorem dc_Mo_health_34 : decode M_Mo_health.2.1 34 = .ok (.istore 5, 2) := by decide +kernel
theorem dc_Mo_health_21 : decode M_Mo_health.2.1 21 = .ok (.iconst 0, 1) := by decide +kernel
theorem dc_Mo_health_22 : decode M_Mo_health.2.1 22 = .ok (.ireturn, 1) := by decide +kernel
theorem dc_Mo_health_36 : decode M_Mo_health.2.1 36 = .ok (.iload 5, 2) := by decide +kernel
theorem dc_Mo_health_38 : decode M_Mo_health.2.1 38 = .ok (.aload_n 0, 1) := by decide +kernel
theorem dc_Mo_health_39 : decode M_Mo_health.2.1 39 = .ok (.getfield 13, 3) := by decide +kernel
theorem dc_Mo_health_42 : decode M_Mo_health.2.1 42 = .ok (.if_icmp .ge 48, 3) := by decide +kernel
theorem dc_Mo_health_90 : decode M_Mo_health.2.1 90 = .ok (.iload 4, 2) := by decide +kernel
theorem dc_Mo_health_92 : decode M_Mo_health.2.1 92 = .ok (.ireturn, 1) := by decide +kernel
theorem dc_Mo_health_45 : decode M_Mo_health.2.1 45 = .ok (.aload_n 0, 1) := by decide +kernel
theorem dc_Mo_health_46 : decode M_Mo_health.2.1 46 = .ok (.bipush 12, 2) := by decide +kernel
theorem dc_Mo_health_48 : decode M_Mo_health.2.1 48 = .ok (.iload_n 3, 1) := by decide +kernel
theorem dc_Mo_health_49 : decode M_Mo_health.2.1 49 = .ok (.imul, 1) := by decide +kernel
theorem dc_Mo_health_50 : decode M_Mo_health.2.1 50 = .ok (.iload 5, 2) := by decide +kernel
theorem dc_Mo_health_52 : decode M_Mo_health.2.1 52 = .ok (.iadd, 1) := by decide +kernel
theorem dc_Mo_health_53 : decode M_Mo_health.2.1 53 = .ok (.invokevirtual 173, 3) := by decide +kernel
theorem dc_Mo_health_56 : decode M_Mo_health.2.1 56 = .ok (.ifCond .eq 24, 3) := by decide +kernel
theorem dc_Mo_health_59 : decode M_Mo_health.2.1 59 = .ok (.aload_n 0, 1) := by decide +kernel
theorem dc_Mo_health_60 : decode M_Mo_health.2.1 60 = .ok (.aload_n 0, 1) := by decide +kernel
theorem dc_Mo_health_61 : decode M_Mo_health.2.1 61 = .ok (.getfield 72, 3) := by decide +kernel
theorem dc_Mo_health_64 : decode M_Mo_health.2.1 64 = .ok (.iload_n 3, 1) := by decide +kernel
theorem dc_Mo_health_65 : decode M_Mo_health.2.1 65 = .ok (.iload 5, 2) := by decide +kernel
theorem dc_Mo_health_67 : decode M_Mo_health.2.1 67 = .ok (.invokevirtual 216, 3) := by decide +kernel
theorem dc_Mo_health_70 : decode M_Mo_health.2.1 70 = .ok (.ifCond .eq 10, 3) := by decide +kernel
theorem dc_Mo_health_73 : decode M_Mo_health.2.1 73 = .ok (.iload 4, 2) := by decide +kernel
theorem dc_Mo_health_75 : decode M_Mo_health.2.1 75 = .ok (.iconst 1, 1) := by decide +kernel
theorem dc_Mo_health_76 : decode M_Mo_health.2.1 76 = .ok (.iadd, 1) := by decide +kernel
theorem dc_Mo_health_77 : decode M_Mo_health.2.1 77 = .ok (.goto 5, 3) := by decide +kernel
theorem dc_Mo_health_80 : decode M_Mo_health.2.1 80 = .ok (.iload 4, 2) := by decide +kernel
theorem dc_Mo_health_82 : decode M_Mo_health.2.1 82 = .ok (.istore 4, 2) := by decide +kernel
theorem dc_Mo_health_84 : decode M_Mo_health.2.1 84 = .ok (.iinc 5 1, 3) := by decide +kernel
theorem dc_Mo_health_87 : decode M_Mo_health.2.1 87 = .ok (.goto (-51), 3) := by decide +kernel
theorem dc_Mo_keeper_0 : decode M_Mo_keeper.2.1 0 = .ok (.aload_n 0, 1) := by decide +kernel
theorem dc_Mo_keeper_1 : decode M_Mo_keeper.2.1 1 = .ok (.aload_n 0, 1) := by decide +kernel
theorem dc_Mo_keeper_2 : decode M_Mo_keeper.2.1 2 = .ok (.iload_n 1, 1) := by decide +kernel
theorem dc_Mo_keeper_3 : decode M_Mo_keeper.2.1 3 = .ok (.iload_n 2, 1) := by decide +kernel
theorem dc_Mo_keeper_4 : decode M_Mo_keeper.2.1 4 = .ok (.iload_n 3, 1) := by decide +kernel
theorem dc_Mo_keeper_5 : decode M_Mo_keeper.2.1 5 = .ok (.invokevirtual 213, 3) := by decide +kernel
theorem dc_Mo_keeper_8 : decode M_Mo_keeper.2.1 8 = .ok (.ifCond .eq 7, 3) := by decide +kernel
theorem dc_Mo_keeper_15 : decode M_Mo_keeper.2.1 15 = .ok (.iconst 1, 1) := by decide +kernel
theorem dc_Mo_keeper_11 : decode M_Mo_keeper.2.1 11 = .ok (.iconst 0, 1) := by decide +kernel
theorem dc_Mo_keeper_12 : decode M_Mo_keeper.2.1 12 = .ok (.goto 4, 3) := by decide +kernel
theorem dc_Mo_keeper_16 : decode M_Mo_keeper.2.1 16 = .ok (.invokevirtual 132, 3) := by decide +kernel
theorem dc_Mo_keeper_19 : decode M_Mo_keeper.2.1 19 = .ok (.ifCond .eq 7, 3) := by decide +kernel
theorem dc_Mo_keeper_26 : decode M_Mo_keeper.2.1 26 = .ok (.aload_n 0, 1) := by decide +kernel
theorem dc_Mo_keeper_27 : decode M_Mo_keeper.2.1 27 = .ok (.getfield 78, 3) := by decide +kernel
theorem dc_Mo_keeper_30 : decode M_Mo_keeper.2.1 30 = .ok (.bipush 12, 2) := by decide +kernel
theorem dc_Mo_keeper_32 : decode M_Mo_keeper.2.1 32 = .ok (.bipush 40, 2) := by decide +kernel
theorem dc_Mo_keeper_34 : decode M_Mo_keeper.2.1 34 = .ok (.iload_n 1, 1) := by decide +kernel
theorem dc_Mo_keeper_35 : decode M_Mo_keeper.2.1 35 = .ok (.imul, 1) := by decide +kernel
theorem dc_Mo_keeper_36 : decode M_Mo_keeper.2.1 36 = .ok (.iload_n 2, 1) := by decide +kernel
theorem dc_Mo_keeper_37 : decode M_Mo_keeper.2.1 37 = .ok (.iadd, 1) := by decide +kernel
theorem dc_Mo_keeper_38 : decode M_Mo_keeper.2.1 38 = .ok (.imul, 1) := by decide +kernel
theorem dc_Mo_keeper_39 : decode M_Mo_keeper.2.1 39 = .ok (.iload_n 3, 1) := by decide +kernel
theorem dc_Mo_keeper_40 : decode M_Mo_keeper.2.1 40 = .ok (.iadd, 1) := by decide +kernel
theorem dc_Mo_keeper_41 : decode M_Mo_keeper.2.1 41 = .ok (.iaload, 1) := by decide +kernel
theorem dc_Mo_keeper_22 : decode M_Mo_keeper.2.1 22 = .ok (.iconst 0, 1) := by decide +kernel
theorem dc_Mo_keeper_23 : decode M_Mo_keeper.2.1 23 = .ok (.goto 19, 3) := by decide +kernel
theorem dc_Mo_keeper_42 : decode M_Mo_keeper.2.1 42 = .ok (.ireturn, 1) := by decide +kernel
theorem dc_Mo_count_0 : decode M_Mo_count.2.1 0 = .ok (.aload_n 0, 1) := by decide +kernel
theorem dc_Mo_count_1 : decode M_Mo_count.2.1 1 = .ok (.aload_n 0, 1) := by decide +kernel
theorem dc_Mo_count_2 : decode M_Mo_count.2.1 2 = .ok (.iload_n 1, 1) := by decide +kernel
theorem dc_Mo_count_3 : decode M_Mo_count.2.1 3 = .ok (.invokevirtual 120, 3) := by decide +kernel
theorem dc_Mo_count_6 : decode M_Mo_count.2.1 6 = .ok (.ifCond .eq 12, 3) := by decide +kernel
theorem dc_Mo_count_9 : decode M_Mo_count.2.1 9 = .ok (.iload_n 2, 1) := by decide +kernel
theorem dc_Mo_count_10 : decode M_Mo_count.2.1 10 = .ok (.iconst 0, 1) := by decide +kernel
theorem dc_Mo_count_11 : decode M_Mo_count.2.1 11 = .ok (.iconst 5, 1) := by decide +kernel
theorem dc_Mo_count_12 : decode M_Mo_count.2.1 12 = .ok (.invokestatic 116, 3) := by decide +kernel
theorem dc_Mo_count_15 : decode M_Mo_count.2.1 15 = .ok (.ifCond .ne 7, 3) := by decide +kernel
theorem dc_Mo_count_22 : decode M_Mo_count.2.1 22 = .ok (.iconst 0, 1) := by decide +kernel
theorem dc_Mo_count_18 : decode M_Mo_count.2.1 18 = .ok (.iconst 1, 1) := by decide +kernel
theorem dc_Mo_count_19 : decode M_Mo_count.2.1 19 = .ok (.goto 4, 3) := by decide +kernel
theorem dc_Mo_count_23 : decode M_Mo_count.2.1 23 = .ok (.invokevirtual 132, 3) := by decide +kernel
theorem dc_Mo_count_26 : decode M_Mo_count.2.1 26 = .ok (.ifCond .eq 5, 3) := by decide +kernel
theorem dc_Mo_count_31 : decode M_Mo_count.2.1 31 = .ok (.iload_n 2, 1) := by decide +kernel
theorem dc_Mo_count_32 : decode M_Mo_count.2.1 32 = .ok (.ifCond .ne 10, 3) := by decide +kernel
theorem dc_Mo_count_42 : decode M_Mo_count.2.1 42 = .ok (.iload_n 2, 1) := by decide +kernel
theorem dc_Mo_count_43 : decode M_Mo_count.2.1 43 = .ok (.iconst 3, 1) := by decide +kernel
theorem dc_Mo_count_44 : decode M_Mo_count.2.1 44 = .ok (.if_icmp .le 22, 3) := by decide +kernel
theorem dc_Mo_count_66 : decode M_Mo_count.2.1 66 = .ok (.iconst 0, 1) := by decide +kernel
theorem dc_Mo_count_67 : decode M_Mo_count.2.1 67 = .ok (.istore_n 3, 1) := by decide +kernel
theorem dc_Mo_count_68 : decode M_Mo_count.2.1 68 = .ok (.bipush 40, 2) := by decide +kernel
theorem dc_Mo_count_70 : decode M_Mo_count.2.1 70 = .ok (.iload_n 1, 1) := by decide +kernel
theorem dc_Mo_count_71 : decode M_Mo_count.2.1 71 = .ok (.imul, 1) := by decide +kernel
theorem dc_Mo_count_72 : decode M_Mo_count.2.1 72 = .ok (.istore 4, 2) := by decide +kernel
theorem dc_Mo_count_47 : decode M_Mo_count.2.1 47 = .ok (.iload_n 2, 1) := by decide +kernel
theorem dc_Mo_count_48 : decode M_Mo_count.2.1 48 = .ok (.iconst 4, 1) := by decide +kernel
theorem dc_Mo_count_49 : decode M_Mo_count.2.1 49 = .ok (.if_icmp .ne 11, 3) := by decide +kernel
theorem dc_Mo_count_60 : decode M_Mo_count.2.1 60 = .ok (.aload_n 0, 1) := by decide +kernel
theorem dc_Mo_count_61 : decode M_Mo_count.2.1 61 = .ok (.iload_n 1, 1) := by decide +kernel
theorem dc_Mo_count_62 : decode M_Mo_count.2.1 62 = .ok (.invokevirtual 192, 3) := by decide +kernel
theorem dc_Mo_count_52 : decode M_Mo_count.2.1 52 = .ok (.aload_n 0, 1) := by decide +kernel
theorem dc_Mo_count_53 : decode M_Mo_count.2.1 53 = .ok (.iload_n 1, 1) := by decide +kernel
theorem dc_Mo_count_54 : decode M_Mo_count.2.1 54 = .ok (.invokevirtual 242, 3) := by decide +kernel
theorem km_9_242 : rM 9 242 = some (1, M_Mo_chunks) := rM_at (j := 184) (p := 1298) (by decide +kernel) rfl
theorem np_Mo_chunks : nP M_Mo_chunks = 1 := by decide +kernel
theorem dc_Mo_count_35 : decode M_Mo_count.2.1 35 = .ok (.aload_n 0, 1) := by decide +kernel
theorem dc_Mo_count_36 : decode M_Mo_count.2.1 36 = .ok (.getfield 63, 3) := by decide +kernel
theorem dc_Mo_count_39 : decode M_Mo_count.2.1 39 = .ok (.iload_n 1, 1) := by decide +kernel
theorem dc_Mo_count_40 : decode M_Mo_count.2.1 40 = .ok (.iaload, 1) := by decide +kernel
theorem dc_Mo_count_41 : decode M_Mo_count.2.1 41 = .ok (.ireturn, 1) := by decide +kernel
theorem dc_Mo_count_29 : decode M_Mo_count.2.1 29 = .ok (.iconst 0, 1) := by decide +kernel
theorem dc_Mo_count_30 : decode M_Mo_count.2.1 30 = .ok (.ireturn, 1) := by decide +kernel
theorem dc_Mo_count_57 : decode M_Mo_count.2.1 57 = .ok (.goto 8, 3) := by decide +kernel
theorem dc_Mo_count_65 : decode M_Mo_count.2.1 65 = .ok (.ireturn, 1) := by decide +kernel
theorem dc_Mo_count_74 : decode M_Mo_count.2.1 74 = .ok (.iload 4, 2) := by decide +kernel
theorem dc_Mo_count_76 : decode M_Mo_count.2.1 76 = .ok (.bipush 40, 2) := by decide +kernel
theorem dc_Mo_count_78 : decode M_Mo_count.2.1 78 = .ok (.iload_n 1, 1) := by decide +kernel
theorem dc_Mo_count_79 : decode M_Mo_count.2.1 79 = .ok (.imul, 1) := by decide +kernel
theorem dc_Mo_count_80 : decode M_Mo_count.2.1 80 = .ok (.aload_n 0, 1) := by decide +kernel
theorem dc_Mo_count_81 : decode M_Mo_count.2.1 81 = .ok (.getfield 63, 3) := by decide +kernel
theorem dc_Mo_count_84 : decode M_Mo_count.2.1 84 = .ok (.iload_n 1, 1) := by decide +kernel
theorem dc_Mo_count_85 : decode M_Mo_count.2.1 85 = .ok (.iaload, 1) := by decide +kernel
theorem dc_Mo_count_86 : decode M_Mo_count.2.1 86 = .ok (.iadd, 1) := by decide +kernel
theorem dc_Mo_count_87 : decode M_Mo_count.2.1 87 = .ok (.if_icmp .ge 57, 3) := by decide +kernel
theorem dc_Mo_count_90 : decode M_Mo_count.2.1 90 = .ok (.iload_n 2, 1) := by decide +kernel
theorem dc_Mo_count_91 : decode M_Mo_count.2.1 91 = .ok (.iconst 3, 1) := by decide +kernel
theorem dc_Mo_count_92 : decode M_Mo_count.2.1 92 = .ok (.if_icmp .ge 52, 3) := by decide +kernel
theorem dc_Mo_count_95 : decode M_Mo_count.2.1 95 = .ok (.iload_n 2, 1) := by decide +kernel
theorem dc_Mo_count_96 : decode M_Mo_count.2.1 96 = .ok (.iconst 1, 1) := by decide +kernel
theorem dc_Mo_count_97 : decode M_Mo_count.2.1 97 = .ok (.if_icmp .ne 23, 3) := by decide +kernel
theorem dc_Mo_count_120 : decode M_Mo_count.2.1 120 = .ok (.aload_n 0, 1) := by decide +kernel
theorem dc_Mo_count_121 : decode M_Mo_count.2.1 121 = .ok (.getfield 69, 3) := by decide +kernel
theorem dc_Mo_count_124 : decode M_Mo_count.2.1 124 = .ok (.iload 4, 2) := by decide +kernel
theorem dc_Mo_count_126 : decode M_Mo_count.2.1 126 = .ok (.baload, 1) := by decide +kernel
theorem dc_Mo_count_127 : decode M_Mo_count.2.1 127 = .ok (.ifCond .eq 9, 3) := by decide +kernel
theorem dc_Mo_count_136 : decode M_Mo_count.2.1 136 = .ok (.iload_n 3, 1) := by decide +kernel
theorem dc_Mo_count_130 : decode M_Mo_count.2.1 130 = .ok (.iload_n 3, 1) := by decide +kernel
theorem dc_Mo_count_131 : decode M_Mo_count.2.1 131 = .ok (.iconst 1, 1) := by decide +kernel
theorem dc_Mo_count_132 : decode M_Mo_count.2.1 132 = .ok (.iadd, 1) := by decide +kernel
theorem dc_Mo_count_133 : decode M_Mo_count.2.1 133 = .ok (.goto 4, 3) := by decide +kernel
theorem dc_Mo_count_100 : decode M_Mo_count.2.1 100 = .ok (.aload_n 0, 1) := by decide +kernel
theorem dc_Mo_count_101 : decode M_Mo_count.2.1 101 = .ok (.getfield 66, 3) := by decide +kernel
theorem dc_Mo_count_104 : decode M_Mo_count.2.1 104 = .ok (.iload 4, 2) := by decide +kernel
theorem dc_Mo_count_106 : decode M_Mo_count.2.1 106 = .ok (.baload, 1) := by decide +kernel
theorem dc_Mo_count_107 : decode M_Mo_count.2.1 107 = .ok (.ifCond .eq 7, 3) := by decide +kernel
theorem dc_Mo_count_114 : decode M_Mo_count.2.1 114 = .ok (.iload_n 3, 1) := by decide +kernel
theorem dc_Mo_count_115 : decode M_Mo_count.2.1 115 = .ok (.iconst 1, 1) := by decide +kernel
theorem dc_Mo_count_116 : decode M_Mo_count.2.1 116 = .ok (.iadd, 1) := by decide +kernel
theorem dc_Mo_count_117 : decode M_Mo_count.2.1 117 = .ok (.goto 20, 3) := by decide +kernel
theorem dc_Mo_count_110 : decode M_Mo_count.2.1 110 = .ok (.iload_n 3, 1) := by decide +kernel
theorem dc_Mo_count_111 : decode M_Mo_count.2.1 111 = .ok (.goto 26, 3) := by decide +kernel
theorem dc_Mo_count_137 : decode M_Mo_count.2.1 137 = .ok (.istore_n 3, 1) := by decide +kernel
theorem dc_Mo_count_138 : decode M_Mo_count.2.1 138 = .ok (.iinc 4 1, 3) := by decide +kernel
theorem dc_Mo_count_141 : decode M_Mo_count.2.1 141 = .ok (.goto (-67), 3) := by decide +kernel
theorem dc_Mo_count_144 : decode M_Mo_count.2.1 144 = .ok (.bipush 6, 2) := by decide +kernel
theorem dc_Mo_count_146 : decode M_Mo_count.2.1 146 = .ok (.iload_n 1, 1) := by decide +kernel
theorem dc_Mo_count_147 : decode M_Mo_count.2.1 147 = .ok (.imul, 1) := by decide +kernel
theorem dc_Mo_count_148 : decode M_Mo_count.2.1 148 = .ok (.istore 4, 2) := by decide +kernel
theorem dc_Mo_count_150 : decode M_Mo_count.2.1 150 = .ok (.iload 4, 2) := by decide +kernel
theorem dc_Mo_count_152 : decode M_Mo_count.2.1 152 = .ok (.bipush 6, 2) := by decide +kernel
theorem dc_Mo_count_154 : decode M_Mo_count.2.1 154 = .ok (.iload_n 1, 1) := by decide +kernel
theorem dc_Mo_count_155 : decode M_Mo_count.2.1 155 = .ok (.imul, 1) := by decide +kernel
theorem dc_Mo_count_156 : decode M_Mo_count.2.1 156 = .ok (.bipush 6, 2) := by decide +kernel
theorem dc_Mo_count_158 : decode M_Mo_count.2.1 158 = .ok (.iadd, 1) := by decide +kernel
theorem dc_Mo_count_159 : decode M_Mo_count.2.1 159 = .ok (.if_icmp .ge 32, 3) := by decide +kernel
theorem dc_Mo_count_162 : decode M_Mo_count.2.1 162 = .ok (.iload_n 2, 1) := by decide +kernel
theorem dc_Mo_count_163 : decode M_Mo_count.2.1 163 = .ok (.iconst 3, 1) := by decide +kernel
theorem dc_Mo_count_164 : decode M_Mo_count.2.1 164 = .ok (.if_icmp .ne 27, 3) := by decide +kernel
theorem dc_Mo_count_167 : decode M_Mo_count.2.1 167 = .ok (.aload_n 0, 1) := by decide +kernel
theorem dc_Mo_count_168 : decode M_Mo_count.2.1 168 = .ok (.getfield 51, 3) := by decide +kernel
theorem dc_Mo_count_171 : decode M_Mo_count.2.1 171 = .ok (.iload 4, 2) := by decide +kernel
theorem dc_Mo_count_173 : decode M_Mo_count.2.1 173 = .ok (.iaload, 1) := by decide +kernel
theorem dc_Mo_count_174 : decode M_Mo_count.2.1 174 = .ok (.ifCond .lt 9, 3) := by decide +kernel
theorem dc_Mo_count_183 : decode M_Mo_count.2.1 183 = .ok (.iload_n 3, 1) := by decide +kernel
theorem dc_Mo_count_177 : decode M_Mo_count.2.1 177 = .ok (.iload_n 3, 1) := by decide +kernel
theorem dc_Mo_count_178 : decode M_Mo_count.2.1 178 = .ok (.iconst 1, 1) := by decide +kernel
theorem dc_Mo_count_179 : decode M_Mo_count.2.1 179 = .ok (.iadd, 1) := by decide +kernel
theorem dc_Mo_count_180 : decode M_Mo_count.2.1 180 = .ok (.goto 4, 3) := by decide +kernel
theorem dc_Mo_count_184 : decode M_Mo_count.2.1 184 = .ok (.istore_n 3, 1) := by decide +kernel
theorem dc_Mo_count_185 : decode M_Mo_count.2.1 185 = .ok (.iinc 4 1, 3) := by decide +kernel
theorem dc_Mo_count_188 : decode M_Mo_count.2.1 188 = .ok (.goto (-38), 3) := by decide +kernel
theorem dc_Mo_count_191 : decode M_Mo_count.2.1 191 = .ok (.iload_n 3, 1) := by decide +kernel
theorem dc_Mo_count_192 : decode M_Mo_count.2.1 192 = .ok (.ireturn, 1) := by decide +kernel
theorem dc_Mo_chunks_0 : decode M_Mo_chunks.2.1 0 = .ok (.iconst 0, 1) := by decide +kernel
theorem dc_Mo_chunks_1 : decode M_Mo_chunks.2.1 1 = .ok (.istore_n 2, 1) := by decide +kernel
theorem dc_Mo_chunks_2 : decode M_Mo_chunks.2.1 2 = .ok (.sipush 2400, 3) := by decide +kernel
theorem k_sipush_2400 : (Int16.ofInt 2400).toInt32.toInt = 2400 := by decide
theorem dc_Mo_chunks_5 : decode M_Mo_chunks.2.1 5 = .ok (.iload_n 1, 1) := by decide +kernel
theorem dc_Mo_chunks_6 : decode M_Mo_chunks.2.1 6 = .ok (.imul, 1) := by decide +kernel
theorem dc_Mo_chunks_7 : decode M_Mo_chunks.2.1 7 = .ok (.istore_n 3, 1) := by decide +kernel
theorem dc_Mo_chunks_8 : decode M_Mo_chunks.2.1 8 = .ok (.iload_n 3, 1) := by decide +kernel
theorem dc_Mo_chunks_9 : decode M_Mo_chunks.2.1 9 = .ok (.sipush 2400, 3) := by decide +kernel
theorem dc_Mo_chunks_12 : decode M_Mo_chunks.2.1 12 = .ok (.iload_n 1, 1) := by decide +kernel
theorem dc_Mo_chunks_13 : decode M_Mo_chunks.2.1 13 = .ok (.imul, 1) := by decide +kernel
theorem dc_Mo_chunks_14 : decode M_Mo_chunks.2.1 14 = .ok (.sipush 2400, 3) := by decide +kernel
theorem dc_Mo_chunks_17 : decode M_Mo_chunks.2.1 17 = .ok (.iadd, 1) := by decide +kernel
theorem dc_Mo_chunks_18 : decode M_Mo_chunks.2.1 18 = .ok (.if_icmp .ge 123, 3) := by decide +kernel
theorem dc_Mo_chunks_141 : decode M_Mo_chunks.2.1 141 = .ok (.iload_n 2, 1) := by decide +kernel
theorem dc_Mo_chunks_142 : decode M_Mo_chunks.2.1 142 = .ok (.ireturn, 1) := by decide +kernel
theorem dc_Mo_chunks_21 : decode M_Mo_chunks.2.1 21 = .ok (.iconst 0, 1) := by decide +kernel
theorem dc_Mo_chunks_22 : decode M_Mo_chunks.2.1 22 = .ok (.istore 4, 2) := by decide +kernel
theorem dc_Mo_chunks_24 : decode M_Mo_chunks.2.1 24 = .ok (.bipush 6, 2) := by decide +kernel
theorem dc_Mo_chunks_26 : decode M_Mo_chunks.2.1 26 = .ok (.iload_n 1, 1) := by decide +kernel
theorem dc_Mo_chunks_27 : decode M_Mo_chunks.2.1 27 = .ok (.imul, 1) := by decide +kernel
theorem dc_Mo_chunks_28 : decode M_Mo_chunks.2.1 28 = .ok (.istore 5, 2) := by decide +kernel
theorem dc_Mo_chunks_30 : decode M_Mo_chunks.2.1 30 = .ok (.iload 5, 2) := by decide +kernel
theorem dc_Mo_chunks_32 : decode M_Mo_chunks.2.1 32 = .ok (.bipush 6, 2) := by decide +kernel
theorem dc_Mo_chunks_34 : decode M_Mo_chunks.2.1 34 = .ok (.iload_n 1, 1) := by decide +kernel
theorem dc_Mo_chunks_35 : decode M_Mo_chunks.2.1 35 = .ok (.imul, 1) := by decide +kernel
theorem dc_Mo_chunks_36 : decode M_Mo_chunks.2.1 36 = .ok (.bipush 6, 2) := by decide +kernel
theorem dc_Mo_chunks_38 : decode M_Mo_chunks.2.1 38 = .ok (.iadd, 1) := by decide +kernel
theorem dc_Mo_chunks_39 : decode M_Mo_chunks.2.1 39 = .ok (.if_icmp .ge 83, 3) := by decide +kernel
theorem dc_Mo_chunks_42 : decode M_Mo_chunks.2.1 42 = .ok (.iload 4, 2) := by decide +kernel
theorem dc_Mo_chunks_44 : decode M_Mo_chunks.2.1 44 = .ok (.ifCond .ne 78, 3) := by decide +kernel
theorem dc_Mo_chunks_47 : decode M_Mo_chunks.2.1 47 = .ok (.aload_n 0, 1) := by decide +kernel
theorem dc_Mo_chunks_48 : decode M_Mo_chunks.2.1 48 = .ok (.getfield 51, 3) := by decide +kernel
theorem dc_Mo_chunks_51 : decode M_Mo_chunks.2.1 51 = .ok (.iload 5, 2) := by decide +kernel
theorem dc_Mo_chunks_53 : decode M_Mo_chunks.2.1 53 = .ok (.iaload, 1) := by decide +kernel
theorem dc_Mo_chunks_54 : decode M_Mo_chunks.2.1 54 = .ok (.ifCond .lt 62, 3) := by decide +kernel
theorem dc_Mo_chunks_57 : decode M_Mo_chunks.2.1 57 = .ok (.aload_n 0, 1) := by decide +kernel
theorem dc_Mo_chunks_58 : decode M_Mo_chunks.2.1 58 = .ok (.iload 5, 2) := by decide +kernel
theorem dc_Mo_chunks_60 : decode M_Mo_chunks.2.1 60 = .ok (.invokevirtual 236, 3) := by decide +kernel
theorem dc_Mo_chunks_63 : decode M_Mo_chunks.2.1 63 = .ok (.istore 6, 2) := by decide +kernel
theorem dc_Mo_chunks_65 : decode M_Mo_chunks.2.1 65 = .ok (.sipush 500, 3) := by decide +kernel
theorem dc_Mo_chunks_68 : decode M_Mo_chunks.2.1 68 = .ok (.iload 5, 2) := by decide +kernel
theorem dc_Mo_chunks_70 : decode M_Mo_chunks.2.1 70 = .ok (.imul, 1) := by decide +kernel
theorem dc_Mo_chunks_71 : decode M_Mo_chunks.2.1 71 = .ok (.istore 7, 2) := by decide +kernel
theorem dc_Mo_chunks_73 : decode M_Mo_chunks.2.1 73 = .ok (.iload 7, 2) := by decide +kernel
theorem dc_Mo_chunks_75 : decode M_Mo_chunks.2.1 75 = .ok (.sipush 500, 3) := by decide +kernel
theorem dc_Mo_chunks_78 : decode M_Mo_chunks.2.1 78 = .ok (.iload 5, 2) := by decide +kernel
theorem dc_Mo_chunks_80 : decode M_Mo_chunks.2.1 80 = .ok (.imul, 1) := by decide +kernel
theorem dc_Mo_chunks_81 : decode M_Mo_chunks.2.1 81 = .ok (.iload 6, 2) := by decide +kernel
theorem dc_Mo_chunks_83 : decode M_Mo_chunks.2.1 83 = .ok (.iadd, 1) := by decide +kernel
theorem dc_Mo_chunks_84 : decode M_Mo_chunks.2.1 84 = .ok (.if_icmp .ge 32, 3) := by decide +kernel
theorem dc_Mo_chunks_87 : decode M_Mo_chunks.2.1 87 = .ok (.iload 4, 2) := by decide +kernel
theorem dc_Mo_chunks_89 : decode M_Mo_chunks.2.1 89 = .ok (.ifCond .ne 27, 3) := by decide +kernel
theorem dc_Mo_chunks_92 : decode M_Mo_chunks.2.1 92 = .ok (.aload_n 0, 1) := by decide +kernel
theorem dc_Mo_chunks_93 : decode M_Mo_chunks.2.1 93 = .ok (.getfield 57, 3) := by decide +kernel
theorem dc_Mo_chunks_96 : decode M_Mo_chunks.2.1 96 = .ok (.iload 7, 2) := by decide +kernel
theorem dc_Mo_chunks_98 : decode M_Mo_chunks.2.1 98 = .ok (.iaload, 1) := by decide +kernel
theorem dc_Mo_chunks_99 : decode M_Mo_chunks.2.1 99 = .ok (.iload_n 3, 1) := by decide +kernel
theorem dc_Mo_chunks_100 : decode M_Mo_chunks.2.1 100 = .ok (.if_icmp .ne 7, 3) := by decide +kernel
theorem dc_Mo_chunks_107 : decode M_Mo_chunks.2.1 107 = .ok (.iconst 0, 1) := by decide +kernel
theorem dc_Mo_chunks_103 : decode M_Mo_chunks.2.1 103 = .ok (.iconst 1, 1) := by decide +kernel
theorem dc_Mo_chunks_104 : decode M_Mo_chunks.2.1 104 = .ok (.goto 4, 3) := by decide +kernel
theorem dc_Mo_chunks_108 : decode M_Mo_chunks.2.1 108 = .ok (.istore 4, 2) := by decide +kernel
theorem dc_Mo_chunks_110 : decode M_Mo_chunks.2.1 110 = .ok (.iinc 7 1, 3) := by decide +kernel
theorem dc_Mo_chunks_113 : decode M_Mo_chunks.2.1 113 = .ok (.goto (-40), 3) := by decide +kernel
theorem dc_Mo_chunks_116 : decode M_Mo_chunks.2.1 116 = .ok (.iinc 5 1, 3) := by decide +kernel
theorem dc_Mo_chunks_119 : decode M_Mo_chunks.2.1 119 = .ok (.goto (-89), 3) := by decide +kernel
theorem dc_Mo_chunks_122 : decode M_Mo_chunks.2.1 122 = .ok (.iload 4, 2) := by decide +kernel
theorem dc_Mo_chunks_124 : decode M_Mo_chunks.2.1 124 = .ok (.ifCond .eq 9, 3) := by decide +kernel
theorem dc_Mo_chunks_133 : decode M_Mo_chunks.2.1 133 = .ok (.iload_n 2, 1) := by decide +kernel
theorem dc_Mo_chunks_127 : decode M_Mo_chunks.2.1 127 = .ok (.iload_n 2, 1) := by decide +kernel
theorem dc_Mo_chunks_128 : decode M_Mo_chunks.2.1 128 = .ok (.iconst 1, 1) := by decide +kernel
theorem dc_Mo_chunks_129 : decode M_Mo_chunks.2.1 129 = .ok (.iadd, 1) := by decide +kernel
theorem dc_Mo_chunks_130 : decode M_Mo_chunks.2.1 130 = .ok (.goto 4, 3) := by decide +kernel
theorem dc_Mo_chunks_134 : decode M_Mo_chunks.2.1 134 = .ok (.istore_n 2, 1) := by decide +kernel
theorem dc_Mo_chunks_135 : decode M_Mo_chunks.2.1 135 = .ok (.iinc 3 1, 3) := by decide +kernel
theorem dc_Mo_chunks_138 : decode M_Mo_chunks.2.1 138 = .ok (.goto (-130), 3) := by decide +kernel
theorem dc_Mo_stored_0 : decode M_Mo_stored.2.1 0 = .ok (.aload_n 0, 1) := by decide +kernel
theorem dc_Mo_stored_1 : decode M_Mo_stored.2.1 1 = .ok (.aload_n 0, 1) := by decide +kernel
theorem dc_Mo_stored_2 : decode M_Mo_stored.2.1 2 = .ok (.iload_n 1, 1) := by decide +kernel
theorem dc_Mo_stored_3 : decode M_Mo_stored.2.1 3 = .ok (.invokevirtual 120, 3) := by decide +kernel
theorem dc_Mo_stored_6 : decode M_Mo_stored.2.1 6 = .ok (.ifCond .eq 15, 3) := by decide +kernel
theorem dc_Mo_stored_9 : decode M_Mo_stored.2.1 9 = .ok (.aload_n 0, 1) := by decide +kernel
theorem dc_Mo_stored_10 : decode M_Mo_stored.2.1 10 = .ok (.iload_n 2, 1) := by decide +kernel
theorem dc_Mo_stored_11 : decode M_Mo_stored.2.1 11 = .ok (.invokevirtual 120, 3) := by decide +kernel
theorem dc_Mo_stored_14 : decode M_Mo_stored.2.1 14 = .ok (.ifCond .eq 7, 3) := by decide +kernel
theorem dc_Mo_stored_17 : decode M_Mo_stored.2.1 17 = .ok (.iconst 0, 1) := by decide +kernel
theorem dc_Mo_stored_18 : decode M_Mo_stored.2.1 18 = .ok (.goto 4, 3) := by decide +kernel
theorem dc_Mo_stored_21 : decode M_Mo_stored.2.1 21 = .ok (.iconst 1, 1) := by decide +kernel
theorem dc_Mo_stored_22 : decode M_Mo_stored.2.1 22 = .ok (.invokevirtual 132, 3) := by decide +kernel
theorem dc_Mo_stored_25 : decode M_Mo_stored.2.1 25 = .ok (.ifCond .eq 7, 3) := by decide +kernel
theorem dc_Mo_stored_32 : decode M_Mo_stored.2.1 32 = .ok (.aload_n 0, 1) := by decide +kernel
theorem dc_Mo_stored_33 : decode M_Mo_stored.2.1 33 = .ok (.getfield 33, 3) := by decide +kernel
theorem dc_Mo_stored_36 : decode M_Mo_stored.2.1 36 = .ok (.bipush 10, 2) := by decide +kernel
theorem dc_Mo_stored_38 : decode M_Mo_stored.2.1 38 = .ok (.iload_n 1, 1) := by decide +kernel
theorem dc_Mo_stored_39 : decode M_Mo_stored.2.1 39 = .ok (.imul, 1) := by decide +kernel
theorem dc_Mo_stored_40 : decode M_Mo_stored.2.1 40 = .ok (.iload_n 2, 1) := by decide +kernel
theorem dc_Mo_stored_41 : decode M_Mo_stored.2.1 41 = .ok (.iadd, 1) := by decide +kernel
theorem dc_Mo_stored_42 : decode M_Mo_stored.2.1 42 = .ok (.iaload, 1) := by decide +kernel
theorem dc_Mo_stored_28 : decode M_Mo_stored.2.1 28 = .ok (.iconst 0, 1) := by decide +kernel
theorem dc_Mo_stored_29 : decode M_Mo_stored.2.1 29 = .ok (.goto 14, 3) := by decide +kernel
theorem dc_Mo_stored_43 : decode M_Mo_stored.2.1 43 = .ok (.ireturn, 1) := by decide +kernel
theorem dc_Mo_settle_0 : decode M_Mo_settle.2.1 0 = .ok (.aload_n 0, 1) := by decide +kernel
theorem dc_Mo_settle_1 : decode M_Mo_settle.2.1 1 = .ok (.iload_n 1, 1) := by decide +kernel
theorem dc_Mo_settle_2 : decode M_Mo_settle.2.1 2 = .ok (.aload_n 0, 1) := by decide +kernel
theorem dc_Mo_settle_3 : decode M_Mo_settle.2.1 3 = .ok (.getfield 245, 3) := by decide +kernel
theorem kf_9_245 : rF 9 245 = some (9, 1) := by decide +kernel
theorem dc_Mo_settle_6 : decode M_Mo_settle.2.1 6 = .ok (.sipush 10000, 3) := by decide +kernel
theorem dc_Mo_settle_9 : decode M_Mo_settle.2.1 9 = .ok (.invokestatic 116, 3) := by decide +kernel
theorem dc_Mo_settle_12 : decode M_Mo_settle.2.1 12 = .ok (.ifCond .eq 7, 3) := by decide +kernel
theorem dc_Mo_settle_19 : decode M_Mo_settle.2.1 19 = .ok (.iconst 1, 1) := by decide +kernel
theorem dc_Mo_settle_15 : decode M_Mo_settle.2.1 15 = .ok (.iconst 0, 1) := by decide +kernel
theorem dc_Mo_settle_16 : decode M_Mo_settle.2.1 16 = .ok (.goto 4, 3) := by decide +kernel
theorem dc_Mo_settle_20 : decode M_Mo_settle.2.1 20 = .ok (.invokevirtual 132, 3) := by decide +kernel
theorem dc_Mo_settle_23 : decode M_Mo_settle.2.1 23 = .ok (.ifCond .eq 4, 3) := by decide +kernel
theorem dc_Mo_settle_27 : decode M_Mo_settle.2.1 27 = .ok (.iconst 0, 1) := by decide +kernel
theorem dc_Mo_settle_28 : decode M_Mo_settle.2.1 28 = .ok (.istore_n 2, 1) := by decide +kernel
theorem dc_Mo_settle_26 : decode M_Mo_settle.2.1 26 = .ok (.return_, 1) := by decide +kernel
theorem dc_Mo_settle_29 : decode M_Mo_settle.2.1 29 = .ok (.iload_n 2, 1) := by decide +kernel
theorem dc_Mo_settle_30 : decode M_Mo_settle.2.1 30 = .ok (.bipush 100, 2) := by decide +kernel
theorem dc_Mo_settle_32 : decode M_Mo_settle.2.1 32 = .ok (.if_icmp .ge 35, 3) := by decide +kernel
theorem dc_Mo_settle_67 : decode M_Mo_settle.2.1 67 = .ok (.aload_n 0, 1) := by decide +kernel
theorem dc_Mo_settle_68 : decode M_Mo_settle.2.1 68 = .ok (.iload_n 1, 1) := by decide +kernel
theorem dc_Mo_settle_69 : decode M_Mo_settle.2.1 69 = .ok (.putfield 245, 3) := by decide +kernel
theorem kp_Mo_settle_9_1 : fpB M_Mo_settle 9 1 = true := by decide +kernel
theorem dc_Mo_settle_72 : decode M_Mo_settle.2.1 72 = .ok (.return_, 1) := by decide +kernel
theorem kiI_9_1 {z : Int} : fitB 9 1 (vI z) = true := fi_I (by decide +kernel)
theorem dc_Mo_settle_35 : decode M_Mo_settle.2.1 35 = .ok (.aload_n 0, 1) := by decide +kernel
theorem dc_Mo_settle_36 : decode M_Mo_settle.2.1 36 = .ok (.getfield 36, 3) := by decide +kernel
theorem dc_Mo_settle_39 : decode M_Mo_settle.2.1 39 = .ok (.iload_n 2, 1) := by decide +kernel
theorem dc_Mo_settle_40 : decode M_Mo_settle.2.1 40 = .ok (.aload_n 0, 1) := by decide +kernel
theorem dc_Mo_settle_41 : decode M_Mo_settle.2.1 41 = .ok (.getfield 36, 3) := by decide +kernel
theorem dc_Mo_settle_44 : decode M_Mo_settle.2.1 44 = .ok (.iload_n 2, 1) := by decide +kernel
theorem dc_Mo_settle_45 : decode M_Mo_settle.2.1 45 = .ok (.iaload, 1) := by decide +kernel
theorem dc_Mo_settle_46 : decode M_Mo_settle.2.1 46 = .ok (.iload_n 1, 1) := by decide +kernel
theorem dc_Mo_settle_47 : decode M_Mo_settle.2.1 47 = .ok (.aload_n 0, 1) := by decide +kernel
theorem dc_Mo_settle_48 : decode M_Mo_settle.2.1 48 = .ok (.getfield 245, 3) := by decide +kernel
theorem dc_Mo_settle_51 : decode M_Mo_settle.2.1 51 = .ok (.isub, 1) := by decide +kernel
theorem dc_Mo_settle_52 : decode M_Mo_settle.2.1 52 = .ok (.aload_n 0, 1) := by decide +kernel
theorem dc_Mo_settle_53 : decode M_Mo_settle.2.1 53 = .ok (.getfield 33, 3) := by decide +kernel
theorem dc_Mo_settle_56 : decode M_Mo_settle.2.1 56 = .ok (.iload_n 2, 1) := by decide +kernel
theorem dc_Mo_settle_57 : decode M_Mo_settle.2.1 57 = .ok (.iaload, 1) := by decide +kernel
theorem dc_Mo_settle_58 : decode M_Mo_settle.2.1 58 = .ok (.imul, 1) := by decide +kernel
theorem dc_Mo_settle_59 : decode M_Mo_settle.2.1 59 = .ok (.iadd, 1) := by decide +kernel
theorem dc_Mo_settle_60 : decode M_Mo_settle.2.1 60 = .ok (.iastore, 1) := by decide +kernel
theorem dc_Mo_settle_61 : decode M_Mo_settle.2.1 61 = .ok (.iinc 2 1, 3) := by decide +kernel
theorem dc_Mo_settle_64 : decode M_Mo_settle.2.1 64 = .ok (.goto (-35), 3) := by decide +kernel
theorem dc_Mo_balance_0 : decode M_Mo_balance.2.1 0 = .ok (.aload_n 0, 1) := by decide +kernel
theorem dc_Mo_balance_1 : decode M_Mo_balance.2.1 1 = .ok (.aload_n 0, 1) := by decide +kernel
theorem dc_Mo_balance_2 : decode M_Mo_balance.2.1 2 = .ok (.iload_n 1, 1) := by decide +kernel
theorem dc_Mo_balance_3 : decode M_Mo_balance.2.1 3 = .ok (.invokevirtual 120, 3) := by decide +kernel
theorem dc_Mo_balance_6 : decode M_Mo_balance.2.1 6 = .ok (.ifCond .eq 15, 3) := by decide +kernel
theorem dc_Mo_balance_9 : decode M_Mo_balance.2.1 9 = .ok (.aload_n 0, 1) := by decide +kernel
theorem dc_Mo_balance_10 : decode M_Mo_balance.2.1 10 = .ok (.iload_n 2, 1) := by decide +kernel
theorem dc_Mo_balance_11 : decode M_Mo_balance.2.1 11 = .ok (.invokevirtual 120, 3) := by decide +kernel
theorem dc_Mo_balance_14 : decode M_Mo_balance.2.1 14 = .ok (.ifCond .eq 7, 3) := by decide +kernel
theorem dc_Mo_balance_17 : decode M_Mo_balance.2.1 17 = .ok (.iconst 0, 1) := by decide +kernel
theorem dc_Mo_balance_18 : decode M_Mo_balance.2.1 18 = .ok (.goto 4, 3) := by decide +kernel
theorem dc_Mo_balance_21 : decode M_Mo_balance.2.1 21 = .ok (.iconst 1, 1) := by decide +kernel
theorem dc_Mo_balance_22 : decode M_Mo_balance.2.1 22 = .ok (.invokevirtual 132, 3) := by decide +kernel
theorem dc_Mo_balance_25 : decode M_Mo_balance.2.1 25 = .ok (.ifCond .eq 7, 3) := by decide +kernel
theorem dc_Mo_balance_32 : decode M_Mo_balance.2.1 32 = .ok (.aload_n 0, 1) := by decide +kernel
theorem dc_Mo_balance_33 : decode M_Mo_balance.2.1 33 = .ok (.getfield 36, 3) := by decide +kernel
theorem dc_Mo_balance_36 : decode M_Mo_balance.2.1 36 = .ok (.bipush 10, 2) := by decide +kernel
theorem dc_Mo_balance_38 : decode M_Mo_balance.2.1 38 = .ok (.iload_n 1, 1) := by decide +kernel
theorem dc_Mo_balance_39 : decode M_Mo_balance.2.1 39 = .ok (.imul, 1) := by decide +kernel
theorem dc_Mo_balance_40 : decode M_Mo_balance.2.1 40 = .ok (.iload_n 2, 1) := by decide +kernel
theorem dc_Mo_balance_41 : decode M_Mo_balance.2.1 41 = .ok (.iadd, 1) := by decide +kernel
theorem dc_Mo_balance_42 : decode M_Mo_balance.2.1 42 = .ok (.iaload, 1) := by decide +kernel
theorem dc_Mo_balance_43 : decode M_Mo_balance.2.1 43 = .ok (.aload_n 0, 1) := by decide +kernel
theorem dc_Mo_balance_44 : decode M_Mo_balance.2.1 44 = .ok (.getfield 36, 3) := by decide +kernel
theorem dc_Mo_balance_47 : decode M_Mo_balance.2.1 47 = .ok (.bipush 10, 2) := by decide +kernel
theorem dc_Mo_balance_49 : decode M_Mo_balance.2.1 49 = .ok (.iload_n 2, 1) := by decide +kernel
theorem dc_Mo_balance_50 : decode M_Mo_balance.2.1 50 = .ok (.imul, 1) := by decide +kernel
theorem dc_Mo_balance_51 : decode M_Mo_balance.2.1 51 = .ok (.iload_n 1, 1) := by decide +kernel
theorem dc_Mo_balance_52 : decode M_Mo_balance.2.1 52 = .ok (.iadd, 1) := by decide +kernel
theorem dc_Mo_balance_53 : decode M_Mo_balance.2.1 53 = .ok (.iaload, 1) := by decide +kernel
theorem dc_Mo_balance_54 : decode M_Mo_balance.2.1 54 = .ok (.isub, 1) := by decide +kernel
theorem dc_Mo_balance_28 : decode M_Mo_balance.2.1 28 = .ok (.iconst 0, 1) := by decide +kernel
theorem dc_Mo_balance_29 : decode M_Mo_balance.2.1 29 = .ok (.goto 26, 3) := by decide +kernel
theorem dc_Mo_balance_55 : decode M_Mo_balance.2.1 55 = .ok (.ireturn, 1) := by decide +kernel
theorem dc_La_law_0 : decode M_La_law.2.1 0 = .ok (.new 8, 3) := by decide +kernel
theorem kn_11_8 : rN 11 8 = some 0 := by decide +kernel
theorem dc_La_law_3 : decode M_La_law.2.1 3 = .ok (.dup, 1) := by decide +kernel
theorem dc_La_law_4 : decode M_La_law.2.1 4 = .ok (.invokespecial 89, 3) := by decide +kernel
theorem km_11_89 : rM 11 89 = some (2, M_FB_init) := rM_at (j := 0) (p := 81) (by decide +kernel) rfl
theorem np_FB_init : nP M_FB_init = 0 := by decide +kernel
theorem dc_La_law_7 : decode M_La_law.2.1 7 = .ok (.astore_n 1, 1) := by decide +kernel
theorem dc_La_law_8 : decode M_La_law.2.1 8 = .ok (.new 90, 3) := by decide +kernel
theorem kn_11_90 : rN 11 90 = some 9 := by decide +kernel
theorem dc_La_law_11 : decode M_La_law.2.1 11 = .ok (.dup, 1) := by decide +kernel
theorem dc_La_law_12 : decode M_La_law.2.1 12 = .ok (.invokespecial 92, 3) := by decide +kernel
theorem km_11_92 : rM 11 92 = some (2, M_Mo_init) := rM_at (j := 129) (p := 965) (by decide +kernel) rfl
theorem np_Mo_init : nP M_Mo_init = 0 := by decide +kernel
theorem dc_La_law_15 : decode M_La_law.2.1 15 = .ok (.astore_n 2, 1) := by decide +kernel
theorem dc_La_law_16 : decode M_La_law.2.1 16 = .ok (.iconst 1, 1) := by decide +kernel
theorem dc_La_law_17 : decode M_La_law.2.1 17 = .ok (.newarray .long, 2) := by decide +kernel
theorem dc_La_law_19 : decode M_La_law.2.1 19 = .ok (.astore_n 3, 1) := by decide +kernel
theorem dc_La_law_20 : decode M_La_law.2.1 20 = .ok (.iconst 0, 1) := by decide +kernel
theorem dc_La_law_21 : decode M_La_law.2.1 21 = .ok (.istore 4, 2) := by decide +kernel
theorem dc_La_law_23 : decode M_La_law.2.1 23 = .ok (.iload 4, 2) := by decide +kernel
theorem dc_La_law_25 : decode M_La_law.2.1 25 = .ok (.aload_n 0, 1) := by decide +kernel
theorem dc_La_law_26 : decode M_La_law.2.1 26 = .ok (.arraylength, 1) := by decide +kernel
theorem dc_La_law_27 : decode M_La_law.2.1 27 = .ok (.bipush 6, 2) := by decide +kernel
theorem dc_La_law_29 : decode M_La_law.2.1 29 = .ok (.isub, 1) := by decide +kernel
theorem dc_La_law_30 : decode M_La_law.2.1 30 = .ok (.if_icmp .gt 1656, 3) := by decide +kernel
theorem dc_La_law_1686 : decode M_La_law.2.1 1686 = .ok (.iconst 1, 1) := by decide +kernel
theorem dc_La_law_1687 : decode M_La_law.2.1 1687 = .ok (.ireturn, 1) := by decide +kernel
theorem dc_La_law_33 : decode M_La_law.2.1 33 = .ok (.aload_n 0, 1) := by decide +kernel
theorem dc_La_law_34 : decode M_La_law.2.1 34 = .ok (.iload 4, 2) := by decide +kernel
theorem dc_La_law_36 : decode M_La_law.2.1 36 = .ok (.iaload, 1) := by decide +kernel
theorem dc_La_law_37 : decode M_La_law.2.1 37 = .ok (.bipush 31, 2) := by decide +kernel
theorem k_bipush_31 : (Int8.ofInt 31).toInt32.toInt = 31 := by decide
theorem dc_La_law_39 : decode M_La_law.2.1 39 = .ok (.iand, 1) := by decide +kernel
theorem dc_La_law_40 : decode M_La_law.2.1 40 = .ok (.tableswitch 1640 0 22 #[108, 156, 204, 291, 371, 474, 530, 586, 677, 713, 824, 887, 967, 1023, 1079, 1159, 1184, 1252, 1320, 1400, 1468, 1536, 1572], 108) := by decide +kernel
theorem dc_La_law_148 : decode M_La_law.2.1 148 = .ok (.aload_n 1, 1) := by decide +kernel
theorem dc_La_law_149 : decode M_La_law.2.1 149 = .ok (.aload_n 0, 1) := by decide +kernel
theorem dc_La_law_150 : decode M_La_law.2.1 150 = .ok (.iload 4, 2) := by decide +kernel
theorem dc_La_law_152 : decode M_La_law.2.1 152 = .ok (.iconst 1, 1) := by decide +kernel
theorem dc_La_law_153 : decode M_La_law.2.1 153 = .ok (.iadd, 1) := by decide +kernel
theorem dc_La_law_154 : decode M_La_law.2.1 154 = .ok (.iaload, 1) := by decide +kernel
theorem dc_La_law_155 : decode M_La_law.2.1 155 = .ok (.aload_n 0, 1) := by decide +kernel
theorem dc_La_law_156 : decode M_La_law.2.1 156 = .ok (.iload 4, 2) := by decide +kernel
theorem dc_La_law_158 : decode M_La_law.2.1 158 = .ok (.iconst 2, 1) := by decide +kernel
theorem dc_La_law_159 : decode M_La_law.2.1 159 = .ok (.iadd, 1) := by decide +kernel
theorem dc_La_law_160 : decode M_La_law.2.1 160 = .ok (.iaload, 1) := by decide +kernel
theorem dc_La_law_161 : decode M_La_law.2.1 161 = .ok (.invokestatic 93, 3) := by decide +kernel
theorem km_11_93 : rM 11 93 = some (0, M_La_code) := rM_at (j := 8) (p := 208) (by decide +kernel) rfl
theorem np_La_code : nP M_La_code = 3 := by decide +kernel
theorem dc_La_law_164 : decode M_La_law.2.1 164 = .ok (.istore 5, 2) := by decide +kernel
theorem dc_La_law_166 : decode M_La_law.2.1 166 = .ok (.aload_n 2, 1) := by decide +kernel
theorem dc_La_law_167 : decode M_La_law.2.1 167 = .ok (.aload_n 0, 1) := by decide +kernel
theorem dc_La_law_168 : decode M_La_law.2.1 168 = .ok (.iload 4, 2) := by decide +kernel
theorem dc_La_law_170 : decode M_La_law.2.1 170 = .ok (.iconst 1, 1) := by decide +kernel
theorem dc_La_law_171 : decode M_La_law.2.1 171 = .ok (.iadd, 1) := by decide +kernel
theorem dc_La_law_172 : decode M_La_law.2.1 172 = .ok (.iaload, 1) := by decide +kernel
theorem dc_La_law_173 : decode M_La_law.2.1 173 = .ok (.aload_n 0, 1) := by decide +kernel
theorem dc_La_law_174 : decode M_La_law.2.1 174 = .ok (.iload 4, 2) := by decide +kernel
theorem dc_La_law_176 : decode M_La_law.2.1 176 = .ok (.iconst 2, 1) := by decide +kernel
theorem dc_La_law_177 : decode M_La_law.2.1 177 = .ok (.iadd, 1) := by decide +kernel
theorem dc_La_law_178 : decode M_La_law.2.1 178 = .ok (.iaload, 1) := by decide +kernel
theorem dc_La_law_179 : decode M_La_law.2.1 179 = .ok (.invokevirtual 98, 3) := by decide +kernel
theorem km_11_98 : rM 11 98 = some (1, M_Mo_code) := rM_at (j := 131) (p := 1090) (by decide +kernel) rfl
theorem np_Mo_code : nP M_Mo_code = 2 := by decide +kernel
theorem dc_La_law_182 : decode M_La_law.2.1 182 = .ok (.aload_n 2, 1) := by decide +kernel
theorem dc_La_law_183 : decode M_La_law.2.1 183 = .ok (.invokevirtual 99, 3) := by decide +kernel
theorem km_11_99 : rM 11 99 = some (1, M_Mo_thrown) := rM_at (j := 130) (p := 1086) (by decide +kernel) rfl
theorem np_Mo_thrown : nP M_Mo_thrown = 0 := by decide +kernel
theorem dc_La_law_186 : decode M_La_law.2.1 186 = .ok (.iload 5, 2) := by decide +kernel
theorem dc_La_law_188 : decode M_La_law.2.1 188 = .ok (.if_icmp .eq 5, 3) := by decide +kernel
theorem dc_La_law_193 : decode M_La_law.2.1 193 = .ok (.goto 1487, 3) := by decide +kernel
theorem dc_La_law_191 : decode M_La_law.2.1 191 = .ok (.iconst 0, 1) := by decide +kernel
theorem dc_La_law_192 : decode M_La_law.2.1 192 = .ok (.ireturn, 1) := by decide +kernel
theorem dc_La_law_196 : decode M_La_law.2.1 196 = .ok (.aload_n 1, 1) := by decide +kernel
theorem dc_La_law_197 : decode M_La_law.2.1 197 = .ok (.aload_n 0, 1) := by decide +kernel
theorem dc_La_law_198 : decode M_La_law.2.1 198 = .ok (.iload 4, 2) := by decide +kernel
theorem dc_La_law_200 : decode M_La_law.2.1 200 = .ok (.iconst 1, 1) := by decide +kernel
theorem dc_La_law_201 : decode M_La_law.2.1 201 = .ok (.iadd, 1) := by decide +kernel
theorem dc_La_law_202 : decode M_La_law.2.1 202 = .ok (.iaload, 1) := by decide +kernel
theorem dc_La_law_203 : decode M_La_law.2.1 203 = .ok (.aload_n 0, 1) := by decide +kernel
theorem dc_La_law_204 : decode M_La_law.2.1 204 = .ok (.iload 4, 2) := by decide +kernel
theorem dc_La_law_206 : decode M_La_law.2.1 206 = .ok (.iconst 2, 1) := by decide +kernel
theorem dc_La_law_207 : decode M_La_law.2.1 207 = .ok (.iadd, 1) := by decide +kernel
theorem dc_La_law_208 : decode M_La_law.2.1 208 = .ok (.iaload, 1) := by decide +kernel
theorem dc_La_law_209 : decode M_La_law.2.1 209 = .ok (.invokestatic 103, 3) := by decide +kernel
theorem km_11_103 : rM 11 103 = some (0, M_La_house) := rM_at (j := 12) (p := 301) (by decide +kernel) rfl
theorem np_La_house : nP M_La_house = 3 := by decide +kernel
theorem dc_La_law_212 : decode M_La_law.2.1 212 = .ok (.istore 5, 2) := by decide +kernel
theorem dc_La_law_214 : decode M_La_law.2.1 214 = .ok (.aload_n 2, 1) := by decide +kernel
theorem dc_La_law_215 : decode M_La_law.2.1 215 = .ok (.aload_n 0, 1) := by decide +kernel
theorem dc_La_law_216 : decode M_La_law.2.1 216 = .ok (.iload 4, 2) := by decide +kernel
theorem dc_La_law_218 : decode M_La_law.2.1 218 = .ok (.iconst 1, 1) := by decide +kernel
theorem dc_La_law_219 : decode M_La_law.2.1 219 = .ok (.iadd, 1) := by decide +kernel
theorem dc_La_law_220 : decode M_La_law.2.1 220 = .ok (.iaload, 1) := by decide +kernel
theorem dc_La_law_221 : decode M_La_law.2.1 221 = .ok (.aload_n 0, 1) := by decide +kernel
theorem dc_La_law_222 : decode M_La_law.2.1 222 = .ok (.iload 4, 2) := by decide +kernel
theorem dc_La_law_224 : decode M_La_law.2.1 224 = .ok (.iconst 2, 1) := by decide +kernel
theorem dc_La_law_225 : decode M_La_law.2.1 225 = .ok (.iadd, 1) := by decide +kernel
theorem dc_La_law_226 : decode M_La_law.2.1 226 = .ok (.iaload, 1) := by decide +kernel
theorem dc_La_law_227 : decode M_La_law.2.1 227 = .ok (.invokevirtual 105, 3) := by decide +kernel
theorem km_11_105 : rM 11 105 = some (1, M_Mo_house) := rM_at (j := 134) (p := 1101) (by decide +kernel) rfl
theorem np_Mo_house : nP M_Mo_house = 2 := by decide +kernel
theorem dc_La_law_230 : decode M_La_law.2.1 230 = .ok (.aload_n 2, 1) := by decide +kernel
theorem dc_La_law_231 : decode M_La_law.2.1 231 = .ok (.invokevirtual 99, 3) := by decide +kernel
theorem dc_La_law_234 : decode M_La_law.2.1 234 = .ok (.iload 5, 2) := by decide +kernel
theorem dc_La_law_236 : decode M_La_law.2.1 236 = .ok (.if_icmp .eq 5, 3) := by decide +kernel
theorem dc_La_law_241 : decode M_La_law.2.1 241 = .ok (.goto 1439, 3) := by decide +kernel
theorem dc_La_law_239 : decode M_La_law.2.1 239 = .ok (.iconst 0, 1) := by decide +kernel
theorem dc_La_law_240 : decode M_La_law.2.1 240 = .ok (.ireturn, 1) := by decide +kernel
theorem dc_La_law_244 : decode M_La_law.2.1 244 = .ok (.aload_n 1, 1) := by decide +kernel
theorem dc_La_law_245 : decode M_La_law.2.1 245 = .ok (.aload_n 0, 1) := by decide +kernel
theorem dc_La_law_246 : decode M_La_law.2.1 246 = .ok (.iload 4, 2) := by decide +kernel
theorem dc_La_law_248 : decode M_La_law.2.1 248 = .ok (.iconst 1, 1) := by decide +kernel
theorem dc_La_law_249 : decode M_La_law.2.1 249 = .ok (.iadd, 1) := by decide +kernel
theorem dc_La_law_250 : decode M_La_law.2.1 250 = .ok (.iaload, 1) := by decide +kernel
theorem dc_La_law_251 : decode M_La_law.2.1 251 = .ok (.aload_n 0, 1) := by decide +kernel
theorem dc_La_law_252 : decode M_La_law.2.1 252 = .ok (.iload 4, 2) := by decide +kernel
theorem dc_La_law_254 : decode M_La_law.2.1 254 = .ok (.iconst 2, 1) := by decide +kernel
theorem dc_La_law_255 : decode M_La_law.2.1 255 = .ok (.iadd, 1) := by decide +kernel
theorem dc_La_law_256 : decode M_La_law.2.1 256 = .ok (.iaload, 1) := by decide +kernel
theorem dc_La_law_257 : decode M_La_law.2.1 257 = .ok (.aload_n 0, 1) := by decide +kernel
theorem dc_La_law_258 : decode M_La_law.2.1 258 = .ok (.iload 4, 2) := by decide +kernel
theorem dc_La_law_260 : decode M_La_law.2.1 260 = .ok (.iconst 3, 1) := by decide +kernel
theorem dc_La_law_261 : decode M_La_law.2.1 261 = .ok (.iadd, 1) := by decide +kernel
theorem dc_La_law_262 : decode M_La_law.2.1 262 = .ok (.iaload, 1) := by decide +kernel
theorem dc_La_law_263 : decode M_La_law.2.1 263 = .ok (.aload_n 3, 1) := by decide +kernel
theorem dc_La_law_264 : decode M_La_law.2.1 264 = .ok (.invokestatic 106, 3) := by decide +kernel
theorem km_11_106 : rM 11 106 = some (0, M_La_contract) := rM_at (j := 18) (p := 399) (by decide +kernel) rfl
theorem np_La_contract : nP M_La_contract = 5 := by decide +kernel
theorem dc_La_law_267 : decode M_La_law.2.1 267 = .ok (.istore 5, 2) := by decide +kernel
theorem dc_La_law_269 : decode M_La_law.2.1 269 = .ok (.aload_n 2, 1) := by decide +kernel
theorem dc_La_law_270 : decode M_La_law.2.1 270 = .ok (.aload_n 0, 1) := by decide +kernel
theorem dc_La_law_271 : decode M_La_law.2.1 271 = .ok (.iload 4, 2) := by decide +kernel
theorem dc_La_law_273 : decode M_La_law.2.1 273 = .ok (.iconst 1, 1) := by decide +kernel
theorem dc_La_law_274 : decode M_La_law.2.1 274 = .ok (.iadd, 1) := by decide +kernel
theorem dc_La_law_275 : decode M_La_law.2.1 275 = .ok (.iaload, 1) := by decide +kernel
theorem dc_La_law_276 : decode M_La_law.2.1 276 = .ok (.aload_n 0, 1) := by decide +kernel
theorem dc_La_law_277 : decode M_La_law.2.1 277 = .ok (.iload 4, 2) := by decide +kernel
theorem dc_La_law_279 : decode M_La_law.2.1 279 = .ok (.iconst 2, 1) := by decide +kernel
theorem dc_La_law_280 : decode M_La_law.2.1 280 = .ok (.iadd, 1) := by decide +kernel
theorem dc_La_law_281 : decode M_La_law.2.1 281 = .ok (.iaload, 1) := by decide +kernel
theorem dc_La_law_282 : decode M_La_law.2.1 282 = .ok (.aload_n 0, 1) := by decide +kernel
theorem dc_La_law_283 : decode M_La_law.2.1 283 = .ok (.iload 4, 2) := by decide +kernel
theorem dc_La_law_285 : decode M_La_law.2.1 285 = .ok (.iconst 3, 1) := by decide +kernel
theorem dc_La_law_286 : decode M_La_law.2.1 286 = .ok (.iadd, 1) := by decide +kernel
theorem dc_La_law_287 : decode M_La_law.2.1 287 = .ok (.iaload, 1) := by decide +kernel
theorem dc_La_law_288 : decode M_La_law.2.1 288 = .ok (.invokevirtual 109, 3) := by decide +kernel
theorem km_11_109 : rM 11 109 = some (1, M_Mo_contract) := rM_at (j := 135) (p := 1105) (by decide +kernel) rfl
theorem np_Mo_contract : nP M_Mo_contract = 3 := by decide +kernel
theorem dc_La_law_291 : decode M_La_law.2.1 291 = .ok (.istore 6, 2) := by decide +kernel
theorem dc_La_law_293 : decode M_La_law.2.1 293 = .ok (.aload_n 2, 1) := by decide +kernel
theorem dc_La_law_294 : decode M_La_law.2.1 294 = .ok (.invokevirtual 99, 3) := by decide +kernel
theorem dc_La_law_297 : decode M_La_law.2.1 297 = .ok (.iload 5, 2) := by decide +kernel
theorem dc_La_law_299 : decode M_La_law.2.1 299 = .ok (.if_icmp .eq 5, 3) := by decide +kernel
theorem dc_La_law_304 : decode M_La_law.2.1 304 = .ok (.iload 5, 2) := by decide +kernel
theorem dc_La_law_306 : decode M_La_law.2.1 306 = .ok (.ifCond .ne 22, 3) := by decide +kernel
theorem dc_La_law_309 : decode M_La_law.2.1 309 = .ok (.aload_n 3, 1) := by decide +kernel
theorem dc_La_law_310 : decode M_La_law.2.1 310 = .ok (.iconst 0, 1) := by decide +kernel
theorem dc_La_law_311 : decode M_La_law.2.1 311 = .ok (.laload, 1) := by decide +kernel
theorem dc_La_law_312 : decode M_La_law.2.1 312 = .ok (.iload 6, 2) := by decide +kernel
theorem dc_La_law_314 : decode M_La_law.2.1 314 = .ok (.ifCond .eq 7, 3) := by decide +kernel
theorem dc_La_law_321 : decode M_La_law.2.1 321 = .ok (.lconst 0, 1) := by decide +kernel
theorem dc_La_law_317 : decode M_La_law.2.1 317 = .ok (.lconst 1, 1) := by decide +kernel
theorem dc_La_law_318 : decode M_La_law.2.1 318 = .ok (.goto 4, 3) := by decide +kernel
theorem dc_La_law_302 : decode M_La_law.2.1 302 = .ok (.iconst 0, 1) := by decide +kernel
theorem dc_La_law_303 : decode M_La_law.2.1 303 = .ok (.ireturn, 1) := by decide +kernel
theorem dc_La_law_322 : decode M_La_law.2.1 322 = .ok (.lcmp, 1) := by decide +kernel
theorem dc_La_law_323 : decode M_La_law.2.1 323 = .ok (.ifCond .eq 5, 3) := by decide +kernel
theorem dc_La_law_326 : decode M_La_law.2.1 326 = .ok (.iconst 0, 1) := by decide +kernel
theorem dc_La_law_327 : decode M_La_law.2.1 327 = .ok (.ireturn, 1) := by decide +kernel
theorem dc_La_law_328 : decode M_La_law.2.1 328 = .ok (.goto 1352, 3) := by decide +kernel
theorem dc_La_law_331 : decode M_La_law.2.1 331 = .ok (.aload_n 1, 1) := by decide +kernel
theorem dc_La_law_332 : decode M_La_law.2.1 332 = .ok (.aload_n 0, 1) := by decide +kernel
theorem dc_La_law_333 : decode M_La_law.2.1 333 = .ok (.iload 4, 2) := by decide +kernel
theorem dc_La_law_335 : decode M_La_law.2.1 335 = .ok (.iconst 1, 1) := by decide +kernel
theorem dc_La_law_336 : decode M_La_law.2.1 336 = .ok (.iadd, 1) := by decide +kernel
theorem dc_La_law_337 : decode M_La_law.2.1 337 = .ok (.iaload, 1) := by decide +kernel
theorem dc_La_law_338 : decode M_La_law.2.1 338 = .ok (.aload_n 0, 1) := by decide +kernel
theorem dc_La_law_339 : decode M_La_law.2.1 339 = .ok (.iload 4, 2) := by decide +kernel
theorem dc_La_law_341 : decode M_La_law.2.1 341 = .ok (.iconst 2, 1) := by decide +kernel
theorem dc_La_law_342 : decode M_La_law.2.1 342 = .ok (.iadd, 1) := by decide +kernel
theorem dc_La_law_343 : decode M_La_law.2.1 343 = .ok (.iaload, 1) := by decide +kernel
theorem dc_La_law_344 : decode M_La_law.2.1 344 = .ok (.aload_n 0, 1) := by decide +kernel
theorem dc_La_law_345 : decode M_La_law.2.1 345 = .ok (.iload 4, 2) := by decide +kernel
theorem dc_La_law_347 : decode M_La_law.2.1 347 = .ok (.iconst 3, 1) := by decide +kernel
theorem dc_La_law_348 : decode M_La_law.2.1 348 = .ok (.iadd, 1) := by decide +kernel
theorem dc_La_law_349 : decode M_La_law.2.1 349 = .ok (.iaload, 1) := by decide +kernel
theorem dc_La_law_350 : decode M_La_law.2.1 350 = .ok (.aload_n 3, 1) := by decide +kernel
theorem dc_La_law_351 : decode M_La_law.2.1 351 = .ok (.invokestatic 110, 3) := by decide +kernel
theorem km_11_110 : rM 11 110 = some (0, M_La_write) := rM_at (j := 22) (p := 414) (by decide +kernel) rfl
theorem np_La_write : nP M_La_write = 5 := by decide +kernel
theorem dc_La_law_354 : decode M_La_law.2.1 354 = .ok (.istore 5, 2) := by decide +kernel
theorem dc_La_law_356 : decode M_La_law.2.1 356 = .ok (.aload_n 2, 1) := by decide +kernel
theorem dc_La_law_357 : decode M_La_law.2.1 357 = .ok (.aload_n 0, 1) := by decide +kernel
theorem dc_La_law_358 : decode M_La_law.2.1 358 = .ok (.iload 4, 2) := by decide +kernel
theorem dc_La_law_360 : decode M_La_law.2.1 360 = .ok (.iconst 1, 1) := by decide +kernel
theorem dc_La_law_361 : decode M_La_law.2.1 361 = .ok (.iadd, 1) := by decide +kernel
theorem dc_La_law_362 : decode M_La_law.2.1 362 = .ok (.iaload, 1) := by decide +kernel
theorem dc_La_law_363 : decode M_La_law.2.1 363 = .ok (.aload_n 0, 1) := by decide +kernel
theorem dc_La_law_364 : decode M_La_law.2.1 364 = .ok (.iload 4, 2) := by decide +kernel
theorem dc_La_law_366 : decode M_La_law.2.1 366 = .ok (.iconst 2, 1) := by decide +kernel
theorem dc_La_law_367 : decode M_La_law.2.1 367 = .ok (.iadd, 1) := by decide +kernel
theorem dc_La_law_368 : decode M_La_law.2.1 368 = .ok (.iaload, 1) := by decide +kernel
theorem dc_La_law_369 : decode M_La_law.2.1 369 = .ok (.aload_n 0, 1) := by decide +kernel
theorem dc_La_law_370 : decode M_La_law.2.1 370 = .ok (.iload 4, 2) := by decide +kernel
theorem dc_La_law_372 : decode M_La_law.2.1 372 = .ok (.iconst 3, 1) := by decide +kernel
theorem dc_La_law_373 : decode M_La_law.2.1 373 = .ok (.iadd, 1) := by decide +kernel
theorem dc_La_law_374 : decode M_La_law.2.1 374 = .ok (.iaload, 1) := by decide +kernel
theorem dc_La_law_375 : decode M_La_law.2.1 375 = .ok (.invokevirtual 112, 3) := by decide +kernel
theorem km_11_112 : rM 11 112 = some (1, M_Mo_write) := rM_at (j := 139) (p := 1121) (by decide +kernel) rfl
theorem np_Mo_write : nP M_Mo_write = 3 := by decide +kernel
theorem dc_La_law_378 : decode M_La_law.2.1 378 = .ok (.istore 6, 2) := by decide +kernel
theorem dc_La_law_380 : decode M_La_law.2.1 380 = .ok (.aload_n 2, 1) := by decide +kernel
theorem dc_La_law_381 : decode M_La_law.2.1 381 = .ok (.invokevirtual 99, 3) := by decide +kernel
theorem dc_La_law_384 : decode M_La_law.2.1 384 = .ok (.iload 5, 2) := by decide +kernel
theorem dc_La_law_386 : decode M_La_law.2.1 386 = .ok (.if_icmp .eq 5, 3) := by decide +kernel
theorem dc_La_law_391 : decode M_La_law.2.1 391 = .ok (.iload 5, 2) := by decide +kernel
theorem dc_La_law_393 : decode M_La_law.2.1 393 = .ok (.ifCond .ne 15, 3) := by decide +kernel
theorem dc_La_law_396 : decode M_La_law.2.1 396 = .ok (.aload_n 3, 1) := by decide +kernel
theorem dc_La_law_397 : decode M_La_law.2.1 397 = .ok (.iconst 0, 1) := by decide +kernel
theorem dc_La_law_398 : decode M_La_law.2.1 398 = .ok (.laload, 1) := by decide +kernel
theorem dc_La_law_399 : decode M_La_law.2.1 399 = .ok (.iload 6, 2) := by decide +kernel
theorem dc_La_law_401 : decode M_La_law.2.1 401 = .ok (.i2l, 1) := by decide +kernel
theorem dc_La_law_402 : decode M_La_law.2.1 402 = .ok (.lcmp, 1) := by decide +kernel
theorem dc_La_law_403 : decode M_La_law.2.1 403 = .ok (.ifCond .eq 5, 3) := by decide +kernel
theorem dc_La_law_406 : decode M_La_law.2.1 406 = .ok (.iconst 0, 1) := by decide +kernel
theorem dc_La_law_407 : decode M_La_law.2.1 407 = .ok (.ireturn, 1) := by decide +kernel
theorem dc_La_law_389 : decode M_La_law.2.1 389 = .ok (.iconst 0, 1) := by decide +kernel
theorem dc_La_law_390 : decode M_La_law.2.1 390 = .ok (.ireturn, 1) := by decide +kernel
theorem dc_La_law_408 : decode M_La_law.2.1 408 = .ok (.goto 1272, 3) := by decide +kernel
theorem dc_La_law_411 : decode M_La_law.2.1 411 = .ok (.aload_n 1, 1) := by decide +kernel
theorem dc_La_law_412 : decode M_La_law.2.1 412 = .ok (.aload_n 0, 1) := by decide +kernel
theorem dc_La_law_413 : decode M_La_law.2.1 413 = .ok (.iload 4, 2) := by decide +kernel
theorem dc_La_law_415 : decode M_La_law.2.1 415 = .ok (.iconst 1, 1) := by decide +kernel
theorem dc_La_law_416 : decode M_La_law.2.1 416 = .ok (.iadd, 1) := by decide +kernel
theorem dc_La_law_417 : decode M_La_law.2.1 417 = .ok (.iaload, 1) := by decide +kernel
theorem dc_La_law_418 : decode M_La_law.2.1 418 = .ok (.aload_n 0, 1) := by decide +kernel
theorem dc_La_law_419 : decode M_La_law.2.1 419 = .ok (.iload 4, 2) := by decide +kernel
theorem dc_La_law_421 : decode M_La_law.2.1 421 = .ok (.iconst 2, 1) := by decide +kernel
theorem dc_La_law_422 : decode M_La_law.2.1 422 = .ok (.iadd, 1) := by decide +kernel
theorem dc_La_law_423 : decode M_La_law.2.1 423 = .ok (.iaload, 1) := by decide +kernel
theorem dc_La_law_424 : decode M_La_law.2.1 424 = .ok (.aload_n 0, 1) := by decide +kernel
theorem dc_La_law_425 : decode M_La_law.2.1 425 = .ok (.iload 4, 2) := by decide +kernel
theorem dc_La_law_427 : decode M_La_law.2.1 427 = .ok (.iconst 3, 1) := by decide +kernel
theorem dc_La_law_428 : decode M_La_law.2.1 428 = .ok (.iadd, 1) := by decide +kernel
theorem dc_La_law_429 : decode M_La_law.2.1 429 = .ok (.iaload, 1) := by decide +kernel
theorem dc_La_law_430 : decode M_La_law.2.1 430 = .ok (.ifCond .eq 7, 3) := by decide +kernel
theorem dc_La_law_437 : decode M_La_law.2.1 437 = .ok (.iconst 0, 1) := by decide +kernel
theorem dc_La_law_433 : decode M_La_law.2.1 433 = .ok (.iconst 1, 1) := by decide +kernel
theorem dc_La_law_434 : decode M_La_law.2.1 434 = .ok (.goto 4, 3) := by decide +kernel
theorem dc_La_law_438 : decode M_La_law.2.1 438 = .ok (.aload_n 3, 1) := by decide +kernel
theorem dc_La_law_439 : decode M_La_law.2.1 439 = .ok (.invokestatic 113, 3) := by decide +kernel
theorem km_11_113 : rM 11 113 = some (0, M_La_file) := rM_at (j := 25) (p := 427) (by decide +kernel) rfl
theorem np_La_file : nP M_La_file = 5 := by decide +kernel
theorem dc_La_law_442 : decode M_La_law.2.1 442 = .ok (.istore 5, 2) := by decide +kernel
theorem dc_La_law_444 : decode M_La_law.2.1 444 = .ok (.aload_n 2, 1) := by decide +kernel
theorem dc_La_law_445 : decode M_La_law.2.1 445 = .ok (.aload_n 0, 1) := by decide +kernel
theorem dc_La_law_446 : decode M_La_law.2.1 446 = .ok (.iload 4, 2) := by decide +kernel
theorem dc_La_law_448 : decode M_La_law.2.1 448 = .ok (.iconst 1, 1) := by decide +kernel
theorem dc_La_law_449 : decode M_La_law.2.1 449 = .ok (.iadd, 1) := by decide +kernel
theorem dc_La_law_450 : decode M_La_law.2.1 450 = .ok (.iaload, 1) := by decide +kernel
theorem dc_La_law_451 : decode M_La_law.2.1 451 = .ok (.aload_n 0, 1) := by decide +kernel
theorem dc_La_law_452 : decode M_La_law.2.1 452 = .ok (.iload 4, 2) := by decide +kernel
theorem dc_La_law_454 : decode M_La_law.2.1 454 = .ok (.iconst 2, 1) := by decide +kernel
theorem dc_La_law_455 : decode M_La_law.2.1 455 = .ok (.iadd, 1) := by decide +kernel
theorem dc_La_law_456 : decode M_La_law.2.1 456 = .ok (.iaload, 1) := by decide +kernel
theorem dc_La_law_457 : decode M_La_law.2.1 457 = .ok (.aload_n 0, 1) := by decide +kernel
theorem dc_La_law_458 : decode M_La_law.2.1 458 = .ok (.iload 4, 2) := by decide +kernel
theorem dc_La_law_460 : decode M_La_law.2.1 460 = .ok (.iconst 3, 1) := by decide +kernel
theorem dc_La_law_461 : decode M_La_law.2.1 461 = .ok (.iadd, 1) := by decide +kernel
theorem dc_La_law_462 : decode M_La_law.2.1 462 = .ok (.iaload, 1) := by decide +kernel
theorem dc_La_law_463 : decode M_La_law.2.1 463 = .ok (.ifCond .eq 7, 3) := by decide +kernel
theorem dc_La_law_470 : decode M_La_law.2.1 470 = .ok (.iconst 0, 1) := by decide +kernel
theorem dc_La_law_466 : decode M_La_law.2.1 466 = .ok (.iconst 1, 1) := by decide +kernel
theorem dc_La_law_467 : decode M_La_law.2.1 467 = .ok (.goto 4, 3) := by decide +kernel
theorem dc_La_law_471 : decode M_La_law.2.1 471 = .ok (.invokevirtual 116, 3) := by decide +kernel
theorem km_11_116 : rM 11 116 = some (1, M_Mo_file) := rM_at (j := 140) (p := 1125) (by decide +kernel) rfl
theorem np_Mo_file : nP M_Mo_file = 3 := by decide +kernel
theorem dc_La_law_474 : decode M_La_law.2.1 474 = .ok (.istore 6, 2) := by decide +kernel
theorem dc_La_law_476 : decode M_La_law.2.1 476 = .ok (.aload_n 2, 1) := by decide +kernel
theorem dc_La_law_477 : decode M_La_law.2.1 477 = .ok (.invokevirtual 99, 3) := by decide +kernel
theorem dc_La_law_480 : decode M_La_law.2.1 480 = .ok (.iload 5, 2) := by decide +kernel
theorem dc_La_law_482 : decode M_La_law.2.1 482 = .ok (.if_icmp .eq 5, 3) := by decide +kernel
theorem dc_La_law_487 : decode M_La_law.2.1 487 = .ok (.iload 5, 2) := by decide +kernel
theorem dc_La_law_489 : decode M_La_law.2.1 489 = .ok (.ifCond .ne 22, 3) := by decide +kernel
theorem dc_La_law_492 : decode M_La_law.2.1 492 = .ok (.aload_n 3, 1) := by decide +kernel
theorem dc_La_law_493 : decode M_La_law.2.1 493 = .ok (.iconst 0, 1) := by decide +kernel
theorem dc_La_law_494 : decode M_La_law.2.1 494 = .ok (.laload, 1) := by decide +kernel
theorem dc_La_law_495 : decode M_La_law.2.1 495 = .ok (.iload 6, 2) := by decide +kernel
theorem dc_La_law_497 : decode M_La_law.2.1 497 = .ok (.ifCond .eq 7, 3) := by decide +kernel
theorem dc_La_law_504 : decode M_La_law.2.1 504 = .ok (.lconst 0, 1) := by decide +kernel
theorem dc_La_law_500 : decode M_La_law.2.1 500 = .ok (.lconst 1, 1) := by decide +kernel
theorem dc_La_law_501 : decode M_La_law.2.1 501 = .ok (.goto 4, 3) := by decide +kernel
theorem dc_La_law_485 : decode M_La_law.2.1 485 = .ok (.iconst 0, 1) := by decide +kernel
theorem dc_La_law_486 : decode M_La_law.2.1 486 = .ok (.ireturn, 1) := by decide +kernel
theorem dc_La_law_505 : decode M_La_law.2.1 505 = .ok (.lcmp, 1) := by decide +kernel
theorem dc_La_law_506 : decode M_La_law.2.1 506 = .ok (.ifCond .eq 5, 3) := by decide +kernel
theorem dc_La_law_509 : decode M_La_law.2.1 509 = .ok (.iconst 0, 1) := by decide +kernel
theorem dc_La_law_510 : decode M_La_law.2.1 510 = .ok (.ireturn, 1) := by decide +kernel
theorem dc_La_law_511 : decode M_La_law.2.1 511 = .ok (.goto 1169, 3) := by decide +kernel
theorem dc_La_law_514 : decode M_La_law.2.1 514 = .ok (.aload_n 1, 1) := by decide +kernel
theorem dc_La_law_515 : decode M_La_law.2.1 515 = .ok (.aload_n 0, 1) := by decide +kernel
theorem dc_La_law_516 : decode M_La_law.2.1 516 = .ok (.iload 4, 2) := by decide +kernel
theorem dc_La_law_518 : decode M_La_law.2.1 518 = .ok (.iconst 1, 1) := by decide +kernel
theorem dc_La_law_519 : decode M_La_law.2.1 519 = .ok (.iadd, 1) := by decide +kernel
theorem dc_La_law_520 : decode M_La_law.2.1 520 = .ok (.iaload, 1) := by decide +kernel
theorem dc_La_law_521 : decode M_La_law.2.1 521 = .ok (.aload_n 3, 1) := by decide +kernel
theorem dc_La_law_522 : decode M_La_law.2.1 522 = .ok (.invokestatic 117, 3) := by decide +kernel
theorem km_11_117 : rM 11 117 = some (0, M_La_seal) := rM_at (j := 28) (p := 438) (by decide +kernel) rfl
theorem np_La_seal : nP M_La_seal = 3 := by decide +kernel
theorem dc_La_law_525 : decode M_La_law.2.1 525 = .ok (.istore 5, 2) := by decide +kernel
theorem dc_La_law_527 : decode M_La_law.2.1 527 = .ok (.aload_n 2, 1) := by decide +kernel
theorem dc_La_law_528 : decode M_La_law.2.1 528 = .ok (.aload_n 0, 1) := by decide +kernel
theorem dc_La_law_529 : decode M_La_law.2.1 529 = .ok (.iload 4, 2) := by decide +kernel
theorem dc_La_law_531 : decode M_La_law.2.1 531 = .ok (.iconst 1, 1) := by decide +kernel
theorem dc_La_law_532 : decode M_La_law.2.1 532 = .ok (.iadd, 1) := by decide +kernel
theorem dc_La_law_533 : decode M_La_law.2.1 533 = .ok (.iaload, 1) := by decide +kernel
theorem dc_La_law_534 : decode M_La_law.2.1 534 = .ok (.invokevirtual 120, 3) := by decide +kernel
theorem km_11_120 : rM 11 120 = some (1, M_Mo_seal) := rM_at (j := 141) (p := 1129) (by decide +kernel) rfl
theorem np_Mo_seal : nP M_Mo_seal = 1 := by decide +kernel
theorem dc_La_law_537 : decode M_La_law.2.1 537 = .ok (.istore 6, 2) := by decide +kernel
theorem dc_La_law_539 : decode M_La_law.2.1 539 = .ok (.aload_n 2, 1) := by decide +kernel
theorem dc_La_law_540 : decode M_La_law.2.1 540 = .ok (.invokevirtual 99, 3) := by decide +kernel
theorem dc_La_law_543 : decode M_La_law.2.1 543 = .ok (.iload 5, 2) := by decide +kernel
theorem dc_La_law_545 : decode M_La_law.2.1 545 = .ok (.if_icmp .eq 5, 3) := by decide +kernel
theorem dc_La_law_550 : decode M_La_law.2.1 550 = .ok (.iload 5, 2) := by decide +kernel
theorem dc_La_law_552 : decode M_La_law.2.1 552 = .ok (.ifCond .ne 15, 3) := by decide +kernel
theorem dc_La_law_555 : decode M_La_law.2.1 555 = .ok (.aload_n 3, 1) := by decide +kernel
theorem dc_La_law_556 : decode M_La_law.2.1 556 = .ok (.iconst 0, 1) := by decide +kernel
theorem dc_La_law_557 : decode M_La_law.2.1 557 = .ok (.laload, 1) := by decide +kernel
theorem dc_La_law_558 : decode M_La_law.2.1 558 = .ok (.iload 6, 2) := by decide +kernel
theorem dc_La_law_560 : decode M_La_law.2.1 560 = .ok (.i2l, 1) := by decide +kernel
theorem dc_La_law_561 : decode M_La_law.2.1 561 = .ok (.lcmp, 1) := by decide +kernel
theorem dc_La_law_562 : decode M_La_law.2.1 562 = .ok (.ifCond .eq 5, 3) := by decide +kernel
theorem dc_La_law_565 : decode M_La_law.2.1 565 = .ok (.iconst 0, 1) := by decide +kernel
theorem dc_La_law_566 : decode M_La_law.2.1 566 = .ok (.ireturn, 1) := by decide +kernel
theorem dc_La_law_548 : decode M_La_law.2.1 548 = .ok (.iconst 0, 1) := by decide +kernel
theorem dc_La_law_549 : decode M_La_law.2.1 549 = .ok (.ireturn, 1) := by decide +kernel
theorem dc_La_law_567 : decode M_La_law.2.1 567 = .ok (.goto 1113, 3) := by decide +kernel
theorem dc_La_law_570 : decode M_La_law.2.1 570 = .ok (.aload_n 1, 1) := by decide +kernel
theorem dc_La_law_571 : decode M_La_law.2.1 571 = .ok (.aload_n 0, 1) := by decide +kernel
theorem dc_La_law_572 : decode M_La_law.2.1 572 = .ok (.iload 4, 2) := by decide +kernel
theorem dc_La_law_574 : decode M_La_law.2.1 574 = .ok (.iconst 1, 1) := by decide +kernel
theorem dc_La_law_575 : decode M_La_law.2.1 575 = .ok (.iadd, 1) := by decide +kernel
theorem dc_La_law_576 : decode M_La_law.2.1 576 = .ok (.iaload, 1) := by decide +kernel
theorem dc_La_law_577 : decode M_La_law.2.1 577 = .ok (.aload_n 3, 1) := by decide +kernel
theorem dc_La_law_578 : decode M_La_law.2.1 578 = .ok (.invokestatic 121, 3) := by decide +kernel
theorem km_11_121 : rM 11 121 = some (0, M_La_push) := rM_at (j := 60) (p := 699) (by decide +kernel) rfl
theorem np_La_push : nP M_La_push = 3 := by decide +kernel
theorem dc_La_law_581 : decode M_La_law.2.1 581 = .ok (.istore 5, 2) := by decide +kernel
theorem dc_La_law_583 : decode M_La_law.2.1 583 = .ok (.aload_n 2, 1) := by decide +kernel
theorem dc_La_law_584 : decode M_La_law.2.1 584 = .ok (.aload_n 0, 1) := by decide +kernel
theorem dc_La_law_585 : decode M_La_law.2.1 585 = .ok (.iload 4, 2) := by decide +kernel
theorem dc_La_law_587 : decode M_La_law.2.1 587 = .ok (.iconst 1, 1) := by decide +kernel
theorem dc_La_law_588 : decode M_La_law.2.1 588 = .ok (.iadd, 1) := by decide +kernel
theorem dc_La_law_589 : decode M_La_law.2.1 589 = .ok (.iaload, 1) := by decide +kernel
theorem dc_La_law_590 : decode M_La_law.2.1 590 = .ok (.invokevirtual 123, 3) := by decide +kernel
theorem km_11_123 : rM 11 123 = some (1, M_Mo_push) := rM_at (j := 147) (p := 1153) (by decide +kernel) rfl
theorem np_Mo_push : nP M_Mo_push = 1 := by decide +kernel
theorem dc_La_law_593 : decode M_La_law.2.1 593 = .ok (.istore 6, 2) := by decide +kernel
theorem dc_La_law_595 : decode M_La_law.2.1 595 = .ok (.aload_n 2, 1) := by decide +kernel
theorem dc_La_law_596 : decode M_La_law.2.1 596 = .ok (.invokevirtual 99, 3) := by decide +kernel
theorem dc_La_law_599 : decode M_La_law.2.1 599 = .ok (.iload 5, 2) := by decide +kernel
theorem dc_La_law_601 : decode M_La_law.2.1 601 = .ok (.if_icmp .eq 5, 3) := by decide +kernel
theorem dc_La_law_606 : decode M_La_law.2.1 606 = .ok (.iload 5, 2) := by decide +kernel
theorem dc_La_law_608 : decode M_La_law.2.1 608 = .ok (.ifCond .ne 15, 3) := by decide +kernel
theorem dc_La_law_611 : decode M_La_law.2.1 611 = .ok (.aload_n 3, 1) := by decide +kernel
theorem dc_La_law_612 : decode M_La_law.2.1 612 = .ok (.iconst 0, 1) := by decide +kernel
theorem dc_La_law_613 : decode M_La_law.2.1 613 = .ok (.laload, 1) := by decide +kernel
theorem dc_La_law_614 : decode M_La_law.2.1 614 = .ok (.iload 6, 2) := by decide +kernel
theorem dc_La_law_616 : decode M_La_law.2.1 616 = .ok (.i2l, 1) := by decide +kernel
theorem dc_La_law_617 : decode M_La_law.2.1 617 = .ok (.lcmp, 1) := by decide +kernel
theorem dc_La_law_618 : decode M_La_law.2.1 618 = .ok (.ifCond .eq 5, 3) := by decide +kernel
theorem dc_La_law_621 : decode M_La_law.2.1 621 = .ok (.iconst 0, 1) := by decide +kernel
theorem dc_La_law_622 : decode M_La_law.2.1 622 = .ok (.ireturn, 1) := by decide +kernel
theorem dc_La_law_604 : decode M_La_law.2.1 604 = .ok (.iconst 0, 1) := by decide +kernel
theorem dc_La_law_605 : decode M_La_law.2.1 605 = .ok (.ireturn, 1) := by decide +kernel
theorem dc_La_law_623 : decode M_La_law.2.1 623 = .ok (.goto 1057, 3) := by decide +kernel
theorem dc_La_law_626 : decode M_La_law.2.1 626 = .ok (.aload_n 1, 1) := by decide +kernel
theorem dc_La_law_627 : decode M_La_law.2.1 627 = .ok (.aload_n 0, 1) := by decide +kernel
theorem dc_La_law_628 : decode M_La_law.2.1 628 = .ok (.iload 4, 2) := by decide +kernel
theorem dc_La_law_630 : decode M_La_law.2.1 630 = .ok (.iconst 1, 1) := by decide +kernel
theorem dc_La_law_631 : decode M_La_law.2.1 631 = .ok (.iadd, 1) := by decide +kernel
theorem dc_La_law_632 : decode M_La_law.2.1 632 = .ok (.iaload, 1) := by decide +kernel
theorem dc_La_law_633 : decode M_La_law.2.1 633 = .ok (.aload_n 0, 1) := by decide +kernel
theorem dc_La_law_634 : decode M_La_law.2.1 634 = .ok (.iload 4, 2) := by decide +kernel
theorem dc_La_law_636 : decode M_La_law.2.1 636 = .ok (.iconst 2, 1) := by decide +kernel
theorem dc_La_law_637 : decode M_La_law.2.1 637 = .ok (.iadd, 1) := by decide +kernel
theorem dc_La_law_638 : decode M_La_law.2.1 638 = .ok (.iaload, 1) := by decide +kernel
theorem dc_La_law_639 : decode M_La_law.2.1 639 = .ok (.ifCond .eq 7, 3) := by decide +kernel
theorem dc_La_law_646 : decode M_La_law.2.1 646 = .ok (.iconst 0, 1) := by decide +kernel
theorem dc_La_law_642 : decode M_La_law.2.1 642 = .ok (.iconst 1, 1) := by decide +kernel
theorem dc_La_law_643 : decode M_La_law.2.1 643 = .ok (.goto 4, 3) := by decide +kernel
theorem dc_La_law_647 : decode M_La_law.2.1 647 = .ok (.aload_n 3, 1) := by decide +kernel
theorem dc_La_law_648 : decode M_La_law.2.1 648 = .ok (.invokestatic 124, 3) := by decide +kernel
theorem km_11_124 : rM 11 124 = some (0, M_La_up) := rM_at (j := 73) (p := 753) (by decide +kernel) rfl
theorem np_La_up : nP M_La_up = 4 := by decide +kernel
theorem dc_La_law_651 : decode M_La_law.2.1 651 = .ok (.istore 5, 2) := by decide +kernel
theorem dc_La_law_653 : decode M_La_law.2.1 653 = .ok (.aload_n 2, 1) := by decide +kernel
theorem dc_La_law_654 : decode M_La_law.2.1 654 = .ok (.aload_n 0, 1) := by decide +kernel
theorem dc_La_law_655 : decode M_La_law.2.1 655 = .ok (.iload 4, 2) := by decide +kernel
theorem dc_La_law_657 : decode M_La_law.2.1 657 = .ok (.iconst 1, 1) := by decide +kernel
theorem dc_La_law_658 : decode M_La_law.2.1 658 = .ok (.iadd, 1) := by decide +kernel
theorem dc_La_law_659 : decode M_La_law.2.1 659 = .ok (.iaload, 1) := by decide +kernel
theorem dc_La_law_660 : decode M_La_law.2.1 660 = .ok (.aload_n 0, 1) := by decide +kernel
theorem dc_La_law_661 : decode M_La_law.2.1 661 = .ok (.iload 4, 2) := by decide +kernel
theorem dc_La_law_663 : decode M_La_law.2.1 663 = .ok (.iconst 2, 1) := by decide +kernel
theorem dc_La_law_664 : decode M_La_law.2.1 664 = .ok (.iadd, 1) := by decide +kernel
theorem dc_La_law_665 : decode M_La_law.2.1 665 = .ok (.iaload, 1) := by decide +kernel
theorem dc_La_law_666 : decode M_La_law.2.1 666 = .ok (.ifCond .eq 7, 3) := by decide +kernel
theorem dc_La_law_673 : decode M_La_law.2.1 673 = .ok (.iconst 0, 1) := by decide +kernel
theorem dc_La_law_669 : decode M_La_law.2.1 669 = .ok (.iconst 1, 1) := by decide +kernel
theorem dc_La_law_670 : decode M_La_law.2.1 670 = .ok (.goto 4, 3) := by decide +kernel
theorem dc_La_law_674 : decode M_La_law.2.1 674 = .ok (.invokevirtual 127, 3) := by decide +kernel
theorem km_11_127 : rM 11 127 = some (1, M_Mo_up) := rM_at (j := 138) (p := 1117) (by decide +kernel) rfl
theorem np_Mo_up : nP M_Mo_up = 2 := by decide +kernel
theorem dc_La_law_677 : decode M_La_law.2.1 677 = .ok (.istore 6, 2) := by decide +kernel
theorem dc_La_law_679 : decode M_La_law.2.1 679 = .ok (.aload_n 2, 1) := by decide +kernel
theorem dc_La_law_680 : decode M_La_law.2.1 680 = .ok (.invokevirtual 99, 3) := by decide +kernel
theorem dc_La_law_683 : decode M_La_law.2.1 683 = .ok (.iload 5, 2) := by decide +kernel
theorem dc_La_law_685 : decode M_La_law.2.1 685 = .ok (.if_icmp .eq 5, 3) := by decide +kernel
theorem dc_La_law_690 : decode M_La_law.2.1 690 = .ok (.iload 5, 2) := by decide +kernel
theorem dc_La_law_692 : decode M_La_law.2.1 692 = .ok (.ifCond .ne 22, 3) := by decide +kernel
theorem dc_La_law_695 : decode M_La_law.2.1 695 = .ok (.aload_n 3, 1) := by decide +kernel
theorem dc_La_law_696 : decode M_La_law.2.1 696 = .ok (.iconst 0, 1) := by decide +kernel
theorem dc_La_law_697 : decode M_La_law.2.1 697 = .ok (.laload, 1) := by decide +kernel
theorem dc_La_law_698 : decode M_La_law.2.1 698 = .ok (.iload 6, 2) := by decide +kernel
theorem dc_La_law_700 : decode M_La_law.2.1 700 = .ok (.ifCond .eq 7, 3) := by decide +kernel
theorem dc_La_law_707 : decode M_La_law.2.1 707 = .ok (.lconst 0, 1) := by decide +kernel
theorem dc_La_law_703 : decode M_La_law.2.1 703 = .ok (.lconst 1, 1) := by decide +kernel
theorem dc_La_law_704 : decode M_La_law.2.1 704 = .ok (.goto 4, 3) := by decide +kernel
theorem dc_La_law_688 : decode M_La_law.2.1 688 = .ok (.iconst 0, 1) := by decide +kernel
theorem dc_La_law_689 : decode M_La_law.2.1 689 = .ok (.ireturn, 1) := by decide +kernel
theorem dc_La_law_708 : decode M_La_law.2.1 708 = .ok (.lcmp, 1) := by decide +kernel
theorem dc_La_law_709 : decode M_La_law.2.1 709 = .ok (.ifCond .eq 5, 3) := by decide +kernel
theorem dc_La_law_712 : decode M_La_law.2.1 712 = .ok (.iconst 0, 1) := by decide +kernel
theorem dc_La_law_713 : decode M_La_law.2.1 713 = .ok (.ireturn, 1) := by decide +kernel
theorem dc_La_law_714 : decode M_La_law.2.1 714 = .ok (.goto 966, 3) := by decide +kernel
theorem dc_La_law_717 : decode M_La_law.2.1 717 = .ok (.aload_n 1, 1) := by decide +kernel
theorem dc_La_law_718 : decode M_La_law.2.1 718 = .ok (.aload_n 0, 1) := by decide +kernel
theorem dc_La_law_719 : decode M_La_law.2.1 719 = .ok (.iload 4, 2) := by decide +kernel
theorem dc_La_law_721 : decode M_La_law.2.1 721 = .ok (.iconst 1, 1) := by decide +kernel
theorem dc_La_law_722 : decode M_La_law.2.1 722 = .ok (.iadd, 1) := by decide +kernel
theorem dc_La_law_723 : decode M_La_law.2.1 723 = .ok (.iaload, 1) := by decide +kernel
theorem dc_La_law_724 : decode M_La_law.2.1 724 = .ok (.invokestatic 128, 3) := by decide +kernel
theorem km_11_128 : rM 11 128 = some (0, M_La_loseDisk) := rM_at (j := 75) (p := 760) (by decide +kernel) rfl
theorem np_La_loseDisk : nP M_La_loseDisk = 2 := by decide +kernel
theorem dc_La_law_727 : decode M_La_law.2.1 727 = .ok (.istore 5, 2) := by decide +kernel
theorem dc_La_law_729 : decode M_La_law.2.1 729 = .ok (.aload_n 2, 1) := by decide +kernel
theorem dc_La_law_730 : decode M_La_law.2.1 730 = .ok (.aload_n 0, 1) := by decide +kernel
theorem dc_La_law_731 : decode M_La_law.2.1 731 = .ok (.iload 4, 2) := by decide +kernel
theorem dc_La_law_733 : decode M_La_law.2.1 733 = .ok (.iconst 1, 1) := by decide +kernel
theorem dc_La_law_734 : decode M_La_law.2.1 734 = .ok (.iadd, 1) := by decide +kernel
theorem dc_La_law_735 : decode M_La_law.2.1 735 = .ok (.iaload, 1) := by decide +kernel
theorem dc_La_law_736 : decode M_La_law.2.1 736 = .ok (.invokevirtual 131, 3) := by decide +kernel
theorem km_11_131 : rM 11 131 = some (1, M_Mo_loseDisk) := rM_at (j := 158) (p := 1194) (by decide +kernel) rfl
theorem np_Mo_loseDisk : nP M_Mo_loseDisk = 1 := by decide +kernel
theorem dc_La_law_739 : decode M_La_law.2.1 739 = .ok (.aload_n 2, 1) := by decide +kernel
theorem dc_La_law_740 : decode M_La_law.2.1 740 = .ok (.invokevirtual 99, 3) := by decide +kernel
theorem dc_La_law_743 : decode M_La_law.2.1 743 = .ok (.iload 5, 2) := by decide +kernel
theorem dc_La_law_745 : decode M_La_law.2.1 745 = .ok (.if_icmp .eq 5, 3) := by decide +kernel
theorem dc_La_law_750 : decode M_La_law.2.1 750 = .ok (.goto 930, 3) := by decide +kernel
theorem dc_La_law_748 : decode M_La_law.2.1 748 = .ok (.iconst 0, 1) := by decide +kernel
theorem dc_La_law_749 : decode M_La_law.2.1 749 = .ok (.ireturn, 1) := by decide +kernel
theorem dc_La_law_753 : decode M_La_law.2.1 753 = .ok (.aload_n 1, 1) := by decide +kernel
theorem dc_La_law_754 : decode M_La_law.2.1 754 = .ok (.aload_n 0, 1) := by decide +kernel
theorem dc_La_law_755 : decode M_La_law.2.1 755 = .ok (.iload 4, 2) := by decide +kernel
theorem dc_La_law_757 : decode M_La_law.2.1 757 = .ok (.iconst 1, 1) := by decide +kernel
theorem dc_La_law_758 : decode M_La_law.2.1 758 = .ok (.iadd, 1) := by decide +kernel
theorem dc_La_law_759 : decode M_La_law.2.1 759 = .ok (.iaload, 1) := by decide +kernel
theorem dc_La_law_760 : decode M_La_law.2.1 760 = .ok (.aload_n 0, 1) := by decide +kernel
theorem dc_La_law_761 : decode M_La_law.2.1 761 = .ok (.iload 4, 2) := by decide +kernel
theorem dc_La_law_763 : decode M_La_law.2.1 763 = .ok (.iconst 2, 1) := by decide +kernel
theorem dc_La_law_764 : decode M_La_law.2.1 764 = .ok (.iadd, 1) := by decide +kernel
theorem dc_La_law_765 : decode M_La_law.2.1 765 = .ok (.iaload, 1) := by decide +kernel
theorem dc_La_law_766 : decode M_La_law.2.1 766 = .ok (.aload_n 0, 1) := by decide +kernel
theorem dc_La_law_767 : decode M_La_law.2.1 767 = .ok (.iload 4, 2) := by decide +kernel
theorem dc_La_law_769 : decode M_La_law.2.1 769 = .ok (.iconst 3, 1) := by decide +kernel
theorem dc_La_law_770 : decode M_La_law.2.1 770 = .ok (.iadd, 1) := by decide +kernel
theorem dc_La_law_771 : decode M_La_law.2.1 771 = .ok (.iaload, 1) := by decide +kernel
theorem dc_La_law_772 : decode M_La_law.2.1 772 = .ok (.aload_n 0, 1) := by decide +kernel
theorem dc_La_law_773 : decode M_La_law.2.1 773 = .ok (.iload 4, 2) := by decide +kernel
theorem dc_La_law_775 : decode M_La_law.2.1 775 = .ok (.iconst 4, 1) := by decide +kernel
theorem dc_La_law_776 : decode M_La_law.2.1 776 = .ok (.iadd, 1) := by decide +kernel
theorem dc_La_law_777 : decode M_La_law.2.1 777 = .ok (.iaload, 1) := by decide +kernel
theorem dc_La_law_778 : decode M_La_law.2.1 778 = .ok (.aload_n 0, 1) := by decide +kernel
theorem dc_La_law_779 : decode M_La_law.2.1 779 = .ok (.iload 4, 2) := by decide +kernel
theorem dc_La_law_781 : decode M_La_law.2.1 781 = .ok (.iconst 5, 1) := by decide +kernel
theorem dc_La_law_782 : decode M_La_law.2.1 782 = .ok (.iadd, 1) := by decide +kernel
theorem dc_La_law_783 : decode M_La_law.2.1 783 = .ok (.iaload, 1) := by decide +kernel
theorem dc_La_law_784 : decode M_La_law.2.1 784 = .ok (.aload_n 3, 1) := by decide +kernel
theorem dc_La_law_785 : decode M_La_law.2.1 785 = .ok (.invokestatic 132, 3) := by decide +kernel
theorem km_11_132 : rM 11 132 = some (0, M_La_harm) := rM_at (j := 79) (p := 776) (by decide +kernel) rfl
theorem np_La_harm : nP M_La_harm = 7 := by decide +kernel
theorem dc_La_law_788 : decode M_La_law.2.1 788 = .ok (.istore 5, 2) := by decide +kernel
theorem dc_La_law_790 : decode M_La_law.2.1 790 = .ok (.aload_n 2, 1) := by decide +kernel
theorem dc_La_law_791 : decode M_La_law.2.1 791 = .ok (.aload_n 0, 1) := by decide +kernel
theorem dc_La_law_792 : decode M_La_law.2.1 792 = .ok (.iload 4, 2) := by decide +kernel
theorem dc_La_law_794 : decode M_La_law.2.1 794 = .ok (.iconst 1, 1) := by decide +kernel
theorem dc_La_law_795 : decode M_La_law.2.1 795 = .ok (.iadd, 1) := by decide +kernel
theorem dc_La_law_796 : decode M_La_law.2.1 796 = .ok (.iaload, 1) := by decide +kernel
theorem dc_La_law_797 : decode M_La_law.2.1 797 = .ok (.aload_n 0, 1) := by decide +kernel
theorem dc_La_law_798 : decode M_La_law.2.1 798 = .ok (.iload 4, 2) := by decide +kernel
theorem dc_La_law_800 : decode M_La_law.2.1 800 = .ok (.iconst 2, 1) := by decide +kernel
theorem dc_La_law_801 : decode M_La_law.2.1 801 = .ok (.iadd, 1) := by decide +kernel
theorem dc_La_law_802 : decode M_La_law.2.1 802 = .ok (.iaload, 1) := by decide +kernel
theorem dc_La_law_803 : decode M_La_law.2.1 803 = .ok (.aload_n 0, 1) := by decide +kernel
theorem dc_La_law_804 : decode M_La_law.2.1 804 = .ok (.iload 4, 2) := by decide +kernel
theorem dc_La_law_806 : decode M_La_law.2.1 806 = .ok (.iconst 3, 1) := by decide +kernel
theorem dc_La_law_807 : decode M_La_law.2.1 807 = .ok (.iadd, 1) := by decide +kernel
theorem dc_La_law_808 : decode M_La_law.2.1 808 = .ok (.iaload, 1) := by decide +kernel
theorem dc_La_law_809 : decode M_La_law.2.1 809 = .ok (.aload_n 0, 1) := by decide +kernel
theorem dc_La_law_810 : decode M_La_law.2.1 810 = .ok (.iload 4, 2) := by decide +kernel
theorem dc_La_law_812 : decode M_La_law.2.1 812 = .ok (.iconst 4, 1) := by decide +kernel
theorem dc_La_law_813 : decode M_La_law.2.1 813 = .ok (.iadd, 1) := by decide +kernel
theorem dc_La_law_814 : decode M_La_law.2.1 814 = .ok (.iaload, 1) := by decide +kernel
theorem dc_La_law_815 : decode M_La_law.2.1 815 = .ok (.aload_n 0, 1) := by decide +kernel
theorem dc_La_law_816 : decode M_La_law.2.1 816 = .ok (.iload 4, 2) := by decide +kernel
theorem dc_La_law_818 : decode M_La_law.2.1 818 = .ok (.iconst 5, 1) := by decide +kernel
theorem dc_La_law_819 : decode M_La_law.2.1 819 = .ok (.iadd, 1) := by decide +kernel
theorem dc_La_law_820 : decode M_La_law.2.1 820 = .ok (.iaload, 1) := by decide +kernel
theorem dc_La_law_821 : decode M_La_law.2.1 821 = .ok (.invokevirtual 135, 3) := by decide +kernel
theorem km_11_135 : rM 11 135 = some (1, M_Mo_harm) := rM_at (j := 160) (p := 1202) (by decide +kernel) rfl
theorem np_Mo_harm : nP M_Mo_harm = 5 := by decide +kernel
theorem dc_La_law_824 : decode M_La_law.2.1 824 = .ok (.istore 6, 2) := by decide +kernel
theorem dc_La_law_826 : decode M_La_law.2.1 826 = .ok (.aload_n 2, 1) := by decide +kernel
theorem dc_La_law_827 : decode M_La_law.2.1 827 = .ok (.invokevirtual 99, 3) := by decide +kernel
theorem dc_La_law_830 : decode M_La_law.2.1 830 = .ok (.iload 5, 2) := by decide +kernel
theorem dc_La_law_832 : decode M_La_law.2.1 832 = .ok (.if_icmp .eq 5, 3) := by decide +kernel
theorem dc_La_law_837 : decode M_La_law.2.1 837 = .ok (.iload 5, 2) := by decide +kernel
theorem dc_La_law_839 : decode M_La_law.2.1 839 = .ok (.ifCond .ne 22, 3) := by decide +kernel
theorem dc_La_law_842 : decode M_La_law.2.1 842 = .ok (.aload_n 3, 1) := by decide +kernel
theorem dc_La_law_843 : decode M_La_law.2.1 843 = .ok (.iconst 0, 1) := by decide +kernel
theorem dc_La_law_844 : decode M_La_law.2.1 844 = .ok (.laload, 1) := by decide +kernel
theorem dc_La_law_845 : decode M_La_law.2.1 845 = .ok (.iload 6, 2) := by decide +kernel
theorem dc_La_law_847 : decode M_La_law.2.1 847 = .ok (.ifCond .eq 7, 3) := by decide +kernel
theorem dc_La_law_854 : decode M_La_law.2.1 854 = .ok (.lconst 0, 1) := by decide +kernel
theorem dc_La_law_850 : decode M_La_law.2.1 850 = .ok (.lconst 1, 1) := by decide +kernel
theorem dc_La_law_851 : decode M_La_law.2.1 851 = .ok (.goto 4, 3) := by decide +kernel
theorem dc_La_law_835 : decode M_La_law.2.1 835 = .ok (.iconst 0, 1) := by decide +kernel
theorem dc_La_law_836 : decode M_La_law.2.1 836 = .ok (.ireturn, 1) := by decide +kernel
theorem dc_La_law_855 : decode M_La_law.2.1 855 = .ok (.lcmp, 1) := by decide +kernel
theorem dc_La_law_856 : decode M_La_law.2.1 856 = .ok (.ifCond .eq 5, 3) := by decide +kernel
theorem dc_La_law_859 : decode M_La_law.2.1 859 = .ok (.iconst 0, 1) := by decide +kernel
theorem dc_La_law_860 : decode M_La_law.2.1 860 = .ok (.ireturn, 1) := by decide +kernel
theorem dc_La_law_861 : decode M_La_law.2.1 861 = .ok (.goto 819, 3) := by decide +kernel
theorem dc_La_law_864 : decode M_La_law.2.1 864 = .ok (.aload_n 1, 1) := by decide +kernel
theorem dc_La_law_865 : decode M_La_law.2.1 865 = .ok (.aload_n 0, 1) := by decide +kernel
theorem dc_La_law_866 : decode M_La_law.2.1 866 = .ok (.iload 4, 2) := by decide +kernel
theorem dc_La_law_868 : decode M_La_law.2.1 868 = .ok (.iconst 1, 1) := by decide +kernel
theorem dc_La_law_869 : decode M_La_law.2.1 869 = .ok (.iadd, 1) := by decide +kernel
theorem dc_La_law_870 : decode M_La_law.2.1 870 = .ok (.iaload, 1) := by decide +kernel
theorem dc_La_law_871 : decode M_La_law.2.1 871 = .ok (.aload_n 3, 1) := by decide +kernel
theorem dc_La_law_872 : decode M_La_law.2.1 872 = .ok (.invokestatic 136, 3) := by decide +kernel
theorem km_11_136 : rM 11 136 = some (0, M_La_recover) := rM_at (j := 82) (p := 786) (by decide +kernel) rfl
theorem np_La_recover : nP M_La_recover = 3 := by decide +kernel
theorem dc_La_law_875 : decode M_La_law.2.1 875 = .ok (.istore 5, 2) := by decide +kernel
theorem dc_La_law_877 : decode M_La_law.2.1 877 = .ok (.aload_n 2, 1) := by decide +kernel
theorem dc_La_law_878 : decode M_La_law.2.1 878 = .ok (.aload_n 0, 1) := by decide +kernel
theorem dc_La_law_879 : decode M_La_law.2.1 879 = .ok (.iload 4, 2) := by decide +kernel
theorem dc_La_law_881 : decode M_La_law.2.1 881 = .ok (.iconst 1, 1) := by decide +kernel
theorem dc_La_law_882 : decode M_La_law.2.1 882 = .ok (.iadd, 1) := by decide +kernel
theorem dc_La_law_883 : decode M_La_law.2.1 883 = .ok (.iaload, 1) := by decide +kernel
theorem dc_La_law_884 : decode M_La_law.2.1 884 = .ok (.invokevirtual 138, 3) := by decide +kernel
theorem km_11_138 : rM 11 138 = some (1, M_Mo_recover) := rM_at (j := 162) (p := 1210) (by decide +kernel) rfl
theorem np_Mo_recover : nP M_Mo_recover = 1 := by decide +kernel
theorem dc_La_law_887 : decode M_La_law.2.1 887 = .ok (.istore 6, 2) := by decide +kernel
theorem dc_La_law_889 : decode M_La_law.2.1 889 = .ok (.aload_n 2, 1) := by decide +kernel
theorem dc_La_law_890 : decode M_La_law.2.1 890 = .ok (.invokevirtual 99, 3) := by decide +kernel
theorem dc_La_law_893 : decode M_La_law.2.1 893 = .ok (.iload 5, 2) := by decide +kernel
theorem dc_La_law_895 : decode M_La_law.2.1 895 = .ok (.if_icmp .eq 5, 3) := by decide +kernel
theorem dc_La_law_900 : decode M_La_law.2.1 900 = .ok (.iload 5, 2) := by decide +kernel
theorem dc_La_law_902 : decode M_La_law.2.1 902 = .ok (.ifCond .ne 22, 3) := by decide +kernel
theorem dc_La_law_905 : decode M_La_law.2.1 905 = .ok (.aload_n 3, 1) := by decide +kernel
theorem dc_La_law_906 : decode M_La_law.2.1 906 = .ok (.iconst 0, 1) := by decide +kernel
theorem dc_La_law_907 : decode M_La_law.2.1 907 = .ok (.laload, 1) := by decide +kernel
theorem dc_La_law_908 : decode M_La_law.2.1 908 = .ok (.iload 6, 2) := by decide +kernel
theorem dc_La_law_910 : decode M_La_law.2.1 910 = .ok (.ifCond .eq 7, 3) := by decide +kernel
theorem dc_La_law_917 : decode M_La_law.2.1 917 = .ok (.lconst 0, 1) := by decide +kernel
theorem dc_La_law_913 : decode M_La_law.2.1 913 = .ok (.lconst 1, 1) := by decide +kernel
theorem dc_La_law_914 : decode M_La_law.2.1 914 = .ok (.goto 4, 3) := by decide +kernel
theorem dc_La_law_898 : decode M_La_law.2.1 898 = .ok (.iconst 0, 1) := by decide +kernel
theorem dc_La_law_899 : decode M_La_law.2.1 899 = .ok (.ireturn, 1) := by decide +kernel
theorem dc_La_law_918 : decode M_La_law.2.1 918 = .ok (.lcmp, 1) := by decide +kernel
theorem dc_La_law_919 : decode M_La_law.2.1 919 = .ok (.ifCond .eq 5, 3) := by decide +kernel
theorem dc_La_law_922 : decode M_La_law.2.1 922 = .ok (.iconst 0, 1) := by decide +kernel
theorem dc_La_law_923 : decode M_La_law.2.1 923 = .ok (.ireturn, 1) := by decide +kernel
theorem dc_La_law_924 : decode M_La_law.2.1 924 = .ok (.goto 756, 3) := by decide +kernel
theorem dc_La_law_927 : decode M_La_law.2.1 927 = .ok (.aload_n 1, 1) := by decide +kernel
theorem dc_La_law_928 : decode M_La_law.2.1 928 = .ok (.aload_n 0, 1) := by decide +kernel
theorem dc_La_law_929 : decode M_La_law.2.1 929 = .ok (.iload 4, 2) := by decide +kernel
theorem dc_La_law_931 : decode M_La_law.2.1 931 = .ok (.iconst 1, 1) := by decide +kernel
theorem dc_La_law_932 : decode M_La_law.2.1 932 = .ok (.iadd, 1) := by decide +kernel
theorem dc_La_law_933 : decode M_La_law.2.1 933 = .ok (.iaload, 1) := by decide +kernel
theorem dc_La_law_934 : decode M_La_law.2.1 934 = .ok (.aload_n 0, 1) := by decide +kernel
theorem dc_La_law_935 : decode M_La_law.2.1 935 = .ok (.iload 4, 2) := by decide +kernel
theorem dc_La_law_937 : decode M_La_law.2.1 937 = .ok (.iconst 2, 1) := by decide +kernel
theorem dc_La_law_938 : decode M_La_law.2.1 938 = .ok (.iadd, 1) := by decide +kernel
theorem dc_La_law_939 : decode M_La_law.2.1 939 = .ok (.iaload, 1) := by decide +kernel
theorem dc_La_law_940 : decode M_La_law.2.1 940 = .ok (.aload_n 0, 1) := by decide +kernel
theorem dc_La_law_941 : decode M_La_law.2.1 941 = .ok (.iload 4, 2) := by decide +kernel
theorem dc_La_law_943 : decode M_La_law.2.1 943 = .ok (.iconst 3, 1) := by decide +kernel
theorem dc_La_law_944 : decode M_La_law.2.1 944 = .ok (.iadd, 1) := by decide +kernel
theorem dc_La_law_945 : decode M_La_law.2.1 945 = .ok (.iaload, 1) := by decide +kernel
theorem dc_La_law_946 : decode M_La_law.2.1 946 = .ok (.aload_n 3, 1) := by decide +kernel
theorem dc_La_law_947 : decode M_La_law.2.1 947 = .ok (.invokestatic 139, 3) := by decide +kernel
theorem km_11_139 : rM 11 139 = some (0, M_La_sample) := rM_at (j := 88) (p := 809) (by decide +kernel) rfl
theorem np_La_sample : nP M_La_sample = 5 := by decide +kernel
theorem dc_La_law_950 : decode M_La_law.2.1 950 = .ok (.istore 5, 2) := by decide +kernel
theorem dc_La_law_952 : decode M_La_law.2.1 952 = .ok (.aload_n 2, 1) := by decide +kernel
theorem dc_La_law_953 : decode M_La_law.2.1 953 = .ok (.aload_n 0, 1) := by decide +kernel
theorem dc_La_law_954 : decode M_La_law.2.1 954 = .ok (.iload 4, 2) := by decide +kernel
theorem dc_La_law_956 : decode M_La_law.2.1 956 = .ok (.iconst 1, 1) := by decide +kernel
theorem dc_La_law_957 : decode M_La_law.2.1 957 = .ok (.iadd, 1) := by decide +kernel
theorem dc_La_law_958 : decode M_La_law.2.1 958 = .ok (.iaload, 1) := by decide +kernel
theorem dc_La_law_959 : decode M_La_law.2.1 959 = .ok (.aload_n 0, 1) := by decide +kernel
theorem dc_La_law_960 : decode M_La_law.2.1 960 = .ok (.iload 4, 2) := by decide +kernel
theorem dc_La_law_962 : decode M_La_law.2.1 962 = .ok (.iconst 2, 1) := by decide +kernel
theorem dc_La_law_963 : decode M_La_law.2.1 963 = .ok (.iadd, 1) := by decide +kernel
theorem dc_La_law_964 : decode M_La_law.2.1 964 = .ok (.iaload, 1) := by decide +kernel
theorem dc_La_law_965 : decode M_La_law.2.1 965 = .ok (.aload_n 0, 1) := by decide +kernel
theorem dc_La_law_966 : decode M_La_law.2.1 966 = .ok (.iload 4, 2) := by decide +kernel
theorem dc_La_law_968 : decode M_La_law.2.1 968 = .ok (.iconst 3, 1) := by decide +kernel
theorem dc_La_law_969 : decode M_La_law.2.1 969 = .ok (.iadd, 1) := by decide +kernel
theorem dc_La_law_970 : decode M_La_law.2.1 970 = .ok (.iaload, 1) := by decide +kernel
theorem dc_La_law_971 : decode M_La_law.2.1 971 = .ok (.invokevirtual 141, 3) := by decide +kernel
theorem km_11_141 : rM 11 141 = some (1, M_Mo_sample) := rM_at (j := 164) (p := 1218) (by decide +kernel) rfl
theorem np_Mo_sample : nP M_Mo_sample = 3 := by decide +kernel
theorem dc_La_law_974 : decode M_La_law.2.1 974 = .ok (.istore 6, 2) := by decide +kernel
theorem dc_La_law_976 : decode M_La_law.2.1 976 = .ok (.aload_n 2, 1) := by decide +kernel
theorem dc_La_law_977 : decode M_La_law.2.1 977 = .ok (.invokevirtual 99, 3) := by decide +kernel
theorem dc_La_law_980 : decode M_La_law.2.1 980 = .ok (.iload 5, 2) := by decide +kernel
theorem dc_La_law_982 : decode M_La_law.2.1 982 = .ok (.if_icmp .eq 5, 3) := by decide +kernel
theorem dc_La_law_987 : decode M_La_law.2.1 987 = .ok (.iload 5, 2) := by decide +kernel
theorem dc_La_law_989 : decode M_La_law.2.1 989 = .ok (.ifCond .ne 15, 3) := by decide +kernel
theorem dc_La_law_992 : decode M_La_law.2.1 992 = .ok (.aload_n 3, 1) := by decide +kernel
theorem dc_La_law_993 : decode M_La_law.2.1 993 = .ok (.iconst 0, 1) := by decide +kernel
theorem dc_La_law_994 : decode M_La_law.2.1 994 = .ok (.laload, 1) := by decide +kernel
theorem dc_La_law_995 : decode M_La_law.2.1 995 = .ok (.iload 6, 2) := by decide +kernel
theorem dc_La_law_997 : decode M_La_law.2.1 997 = .ok (.i2l, 1) := by decide +kernel
theorem dc_La_law_998 : decode M_La_law.2.1 998 = .ok (.lcmp, 1) := by decide +kernel
theorem dc_La_law_999 : decode M_La_law.2.1 999 = .ok (.ifCond .eq 5, 3) := by decide +kernel
theorem dc_La_law_1002 : decode M_La_law.2.1 1002 = .ok (.iconst 0, 1) := by decide +kernel
theorem dc_La_law_1003 : decode M_La_law.2.1 1003 = .ok (.ireturn, 1) := by decide +kernel
theorem dc_La_law_985 : decode M_La_law.2.1 985 = .ok (.iconst 0, 1) := by decide +kernel
theorem dc_La_law_986 : decode M_La_law.2.1 986 = .ok (.ireturn, 1) := by decide +kernel
theorem dc_La_law_1004 : decode M_La_law.2.1 1004 = .ok (.goto 676, 3) := by decide +kernel
theorem dc_La_law_1007 : decode M_La_law.2.1 1007 = .ok (.aload_n 1, 1) := by decide +kernel
theorem dc_La_law_1008 : decode M_La_law.2.1 1008 = .ok (.aload_n 0, 1) := by decide +kernel
theorem dc_La_law_1009 : decode M_La_law.2.1 1009 = .ok (.iload 4, 2) := by decide +kernel
theorem dc_La_law_1011 : decode M_La_law.2.1 1011 = .ok (.iconst 1, 1) := by decide +kernel
theorem dc_La_law_1012 : decode M_La_law.2.1 1012 = .ok (.iadd, 1) := by decide +kernel
theorem dc_La_law_1013 : decode M_La_law.2.1 1013 = .ok (.iaload, 1) := by decide +kernel
theorem dc_La_law_1014 : decode M_La_law.2.1 1014 = .ok (.aload_n 3, 1) := by decide +kernel
theorem dc_La_law_1015 : decode M_La_law.2.1 1015 = .ok (.invokestatic 142, 3) := by decide +kernel
theorem km_11_142 : rM 11 142 = some (0, M_La_audit) := rM_at (j := 91) (p := 820) (by decide +kernel) rfl
theorem np_La_audit : nP M_La_audit = 3 := by decide +kernel
theorem dc_La_law_1018 : decode M_La_law.2.1 1018 = .ok (.istore 5, 2) := by decide +kernel
theorem dc_La_law_1020 : decode M_La_law.2.1 1020 = .ok (.aload_n 2, 1) := by decide +kernel
theorem dc_La_law_1021 : decode M_La_law.2.1 1021 = .ok (.aload_n 0, 1) := by decide +kernel
theorem dc_La_law_1022 : decode M_La_law.2.1 1022 = .ok (.iload 4, 2) := by decide +kernel
theorem dc_La_law_1024 : decode M_La_law.2.1 1024 = .ok (.iconst 1, 1) := by decide +kernel
theorem dc_La_law_1025 : decode M_La_law.2.1 1025 = .ok (.iadd, 1) := by decide +kernel
theorem dc_La_law_1026 : decode M_La_law.2.1 1026 = .ok (.iaload, 1) := by decide +kernel
theorem dc_La_law_1027 : decode M_La_law.2.1 1027 = .ok (.invokevirtual 144, 3) := by decide +kernel
theorem km_11_144 : rM 11 144 = some (1, M_Mo_audit) := rM_at (j := 166) (p := 1226) (by decide +kernel) rfl
theorem np_Mo_audit : nP M_Mo_audit = 1 := by decide +kernel
theorem dc_La_law_1030 : decode M_La_law.2.1 1030 = .ok (.istore 6, 2) := by decide +kernel
theorem dc_La_law_1032 : decode M_La_law.2.1 1032 = .ok (.aload_n 2, 1) := by decide +kernel
theorem dc_La_law_1033 : decode M_La_law.2.1 1033 = .ok (.invokevirtual 99, 3) := by decide +kernel
theorem dc_La_law_1036 : decode M_La_law.2.1 1036 = .ok (.iload 5, 2) := by decide +kernel
theorem dc_La_law_1038 : decode M_La_law.2.1 1038 = .ok (.if_icmp .eq 5, 3) := by decide +kernel
theorem dc_La_law_1043 : decode M_La_law.2.1 1043 = .ok (.iload 5, 2) := by decide +kernel
theorem dc_La_law_1045 : decode M_La_law.2.1 1045 = .ok (.ifCond .ne 15, 3) := by decide +kernel
theorem dc_La_law_1048 : decode M_La_law.2.1 1048 = .ok (.aload_n 3, 1) := by decide +kernel
theorem dc_La_law_1049 : decode M_La_law.2.1 1049 = .ok (.iconst 0, 1) := by decide +kernel
theorem dc_La_law_1050 : decode M_La_law.2.1 1050 = .ok (.laload, 1) := by decide +kernel
theorem dc_La_law_1051 : decode M_La_law.2.1 1051 = .ok (.iload 6, 2) := by decide +kernel
theorem dc_La_law_1053 : decode M_La_law.2.1 1053 = .ok (.i2l, 1) := by decide +kernel
theorem dc_La_law_1054 : decode M_La_law.2.1 1054 = .ok (.lcmp, 1) := by decide +kernel
theorem dc_La_law_1055 : decode M_La_law.2.1 1055 = .ok (.ifCond .eq 5, 3) := by decide +kernel
theorem dc_La_law_1058 : decode M_La_law.2.1 1058 = .ok (.iconst 0, 1) := by decide +kernel
theorem dc_La_law_1059 : decode M_La_law.2.1 1059 = .ok (.ireturn, 1) := by decide +kernel
theorem dc_La_law_1041 : decode M_La_law.2.1 1041 = .ok (.iconst 0, 1) := by decide +kernel
theorem dc_La_law_1042 : decode M_La_law.2.1 1042 = .ok (.ireturn, 1) := by decide +kernel
theorem dc_La_law_1060 : decode M_La_law.2.1 1060 = .ok (.goto 620, 3) := by decide +kernel
theorem dc_La_law_1063 : decode M_La_law.2.1 1063 = .ok (.aload_n 1, 1) := by decide +kernel
theorem dc_La_law_1064 : decode M_La_law.2.1 1064 = .ok (.aload_n 0, 1) := by decide +kernel
theorem dc_La_law_1065 : decode M_La_law.2.1 1065 = .ok (.iload 4, 2) := by decide +kernel
theorem dc_La_law_1067 : decode M_La_law.2.1 1067 = .ok (.iconst 1, 1) := by decide +kernel
theorem dc_La_law_1068 : decode M_La_law.2.1 1068 = .ok (.iadd, 1) := by decide +kernel
theorem dc_La_law_1069 : decode M_La_law.2.1 1069 = .ok (.iaload, 1) := by decide +kernel
theorem dc_La_law_1070 : decode M_La_law.2.1 1070 = .ok (.aload_n 3, 1) := by decide +kernel
theorem dc_La_law_1071 : decode M_La_law.2.1 1071 = .ok (.invokestatic 145, 3) := by decide +kernel
theorem km_11_145 : rM 11 145 = some (0, M_La_repair) := rM_at (j := 96) (p := 839) (by decide +kernel) rfl
theorem np_La_repair : nP M_La_repair = 3 := by decide +kernel
theorem dc_La_law_1074 : decode M_La_law.2.1 1074 = .ok (.istore 5, 2) := by decide +kernel
theorem dc_La_law_1076 : decode M_La_law.2.1 1076 = .ok (.aload_n 2, 1) := by decide +kernel
theorem dc_La_law_1077 : decode M_La_law.2.1 1077 = .ok (.aload_n 0, 1) := by decide +kernel
theorem dc_La_law_1078 : decode M_La_law.2.1 1078 = .ok (.iload 4, 2) := by decide +kernel
theorem dc_La_law_1080 : decode M_La_law.2.1 1080 = .ok (.iconst 1, 1) := by decide +kernel
theorem dc_La_law_1081 : decode M_La_law.2.1 1081 = .ok (.iadd, 1) := by decide +kernel
theorem dc_La_law_1082 : decode M_La_law.2.1 1082 = .ok (.iaload, 1) := by decide +kernel
theorem dc_La_law_1083 : decode M_La_law.2.1 1083 = .ok (.invokevirtual 147, 3) := by decide +kernel
theorem km_11_147 : rM 11 147 = some (1, M_Mo_repair) := rM_at (j := 168) (p := 1234) (by decide +kernel) rfl
theorem np_Mo_repair : nP M_Mo_repair = 1 := by decide +kernel
theorem dc_La_law_1086 : decode M_La_law.2.1 1086 = .ok (.istore 6, 2) := by decide +kernel
theorem dc_La_law_1088 : decode M_La_law.2.1 1088 = .ok (.aload_n 2, 1) := by decide +kernel
theorem dc_La_law_1089 : decode M_La_law.2.1 1089 = .ok (.invokevirtual 99, 3) := by decide +kernel
theorem dc_La_law_1092 : decode M_La_law.2.1 1092 = .ok (.iload 5, 2) := by decide +kernel
theorem dc_La_law_1094 : decode M_La_law.2.1 1094 = .ok (.if_icmp .eq 5, 3) := by decide +kernel
theorem dc_La_law_1099 : decode M_La_law.2.1 1099 = .ok (.iload 5, 2) := by decide +kernel
theorem dc_La_law_1101 : decode M_La_law.2.1 1101 = .ok (.ifCond .ne 15, 3) := by decide +kernel
theorem dc_La_law_1104 : decode M_La_law.2.1 1104 = .ok (.aload_n 3, 1) := by decide +kernel
theorem dc_La_law_1105 : decode M_La_law.2.1 1105 = .ok (.iconst 0, 1) := by decide +kernel
theorem dc_La_law_1106 : decode M_La_law.2.1 1106 = .ok (.laload, 1) := by decide +kernel
theorem dc_La_law_1107 : decode M_La_law.2.1 1107 = .ok (.iload 6, 2) := by decide +kernel
theorem dc_La_law_1109 : decode M_La_law.2.1 1109 = .ok (.i2l, 1) := by decide +kernel
theorem dc_La_law_1110 : decode M_La_law.2.1 1110 = .ok (.lcmp, 1) := by decide +kernel
theorem dc_La_law_1111 : decode M_La_law.2.1 1111 = .ok (.ifCond .eq 5, 3) := by decide +kernel
theorem dc_La_law_1114 : decode M_La_law.2.1 1114 = .ok (.iconst 0, 1) := by decide +kernel
theorem dc_La_law_1115 : decode M_La_law.2.1 1115 = .ok (.ireturn, 1) := by decide +kernel
theorem dc_La_law_1097 : decode M_La_law.2.1 1097 = .ok (.iconst 0, 1) := by decide +kernel
theorem dc_La_law_1098 : decode M_La_law.2.1 1098 = .ok (.ireturn, 1) := by decide +kernel
theorem dc_La_law_1116 : decode M_La_law.2.1 1116 = .ok (.goto 564, 3) := by decide +kernel
theorem dc_La_law_1119 : decode M_La_law.2.1 1119 = .ok (.aload_n 1, 1) := by decide +kernel
theorem dc_La_law_1120 : decode M_La_law.2.1 1120 = .ok (.aload_n 0, 1) := by decide +kernel
theorem dc_La_law_1121 : decode M_La_law.2.1 1121 = .ok (.iload 4, 2) := by decide +kernel
theorem dc_La_law_1123 : decode M_La_law.2.1 1123 = .ok (.iconst 1, 1) := by decide +kernel
theorem dc_La_law_1124 : decode M_La_law.2.1 1124 = .ok (.iadd, 1) := by decide +kernel
theorem dc_La_law_1125 : decode M_La_law.2.1 1125 = .ok (.iaload, 1) := by decide +kernel
theorem dc_La_law_1126 : decode M_La_law.2.1 1126 = .ok (.aload_n 0, 1) := by decide +kernel
theorem dc_La_law_1127 : decode M_La_law.2.1 1127 = .ok (.iload 4, 2) := by decide +kernel
theorem dc_La_law_1129 : decode M_La_law.2.1 1129 = .ok (.iconst 2, 1) := by decide +kernel
theorem dc_La_law_1130 : decode M_La_law.2.1 1130 = .ok (.iadd, 1) := by decide +kernel
theorem dc_La_law_1131 : decode M_La_law.2.1 1131 = .ok (.iaload, 1) := by decide +kernel
theorem dc_La_law_1132 : decode M_La_law.2.1 1132 = .ok (.aload_n 0, 1) := by decide +kernel
theorem dc_La_law_1133 : decode M_La_law.2.1 1133 = .ok (.iload 4, 2) := by decide +kernel
theorem dc_La_law_1135 : decode M_La_law.2.1 1135 = .ok (.iconst 3, 1) := by decide +kernel
theorem dc_La_law_1136 : decode M_La_law.2.1 1136 = .ok (.iadd, 1) := by decide +kernel
theorem dc_La_law_1137 : decode M_La_law.2.1 1137 = .ok (.iaload, 1) := by decide +kernel
theorem dc_La_law_1138 : decode M_La_law.2.1 1138 = .ok (.aload_n 3, 1) := by decide +kernel
theorem dc_La_law_1139 : decode M_La_law.2.1 1139 = .ok (.invokestatic 148, 3) := by decide +kernel
theorem km_11_148 : rM 11 148 = some (0, M_La_restore) := rM_at (j := 105) (p := 875) (by decide +kernel) rfl
theorem np_La_restore : nP M_La_restore = 5 := by decide +kernel
theorem dc_La_law_1142 : decode M_La_law.2.1 1142 = .ok (.istore 5, 2) := by decide +kernel
theorem dc_La_law_1144 : decode M_La_law.2.1 1144 = .ok (.aload_n 2, 1) := by decide +kernel
theorem dc_La_law_1145 : decode M_La_law.2.1 1145 = .ok (.aload_n 0, 1) := by decide +kernel
theorem dc_La_law_1146 : decode M_La_law.2.1 1146 = .ok (.iload 4, 2) := by decide +kernel
theorem dc_La_law_1148 : decode M_La_law.2.1 1148 = .ok (.iconst 1, 1) := by decide +kernel
theorem dc_La_law_1149 : decode M_La_law.2.1 1149 = .ok (.iadd, 1) := by decide +kernel
theorem dc_La_law_1150 : decode M_La_law.2.1 1150 = .ok (.iaload, 1) := by decide +kernel
theorem dc_La_law_1151 : decode M_La_law.2.1 1151 = .ok (.aload_n 0, 1) := by decide +kernel
theorem dc_La_law_1152 : decode M_La_law.2.1 1152 = .ok (.iload 4, 2) := by decide +kernel
theorem dc_La_law_1154 : decode M_La_law.2.1 1154 = .ok (.iconst 2, 1) := by decide +kernel
theorem dc_La_law_1155 : decode M_La_law.2.1 1155 = .ok (.iadd, 1) := by decide +kernel
theorem dc_La_law_1156 : decode M_La_law.2.1 1156 = .ok (.iaload, 1) := by decide +kernel
theorem dc_La_law_1157 : decode M_La_law.2.1 1157 = .ok (.aload_n 0, 1) := by decide +kernel
theorem dc_La_law_1158 : decode M_La_law.2.1 1158 = .ok (.iload 4, 2) := by decide +kernel
theorem dc_La_law_1160 : decode M_La_law.2.1 1160 = .ok (.iconst 3, 1) := by decide +kernel
theorem dc_La_law_1161 : decode M_La_law.2.1 1161 = .ok (.iadd, 1) := by decide +kernel
theorem dc_La_law_1162 : decode M_La_law.2.1 1162 = .ok (.iaload, 1) := by decide +kernel
theorem dc_La_law_1163 : decode M_La_law.2.1 1163 = .ok (.invokevirtual 150, 3) := by decide +kernel
theorem km_11_150 : rM 11 150 = some (1, M_Mo_restore) := rM_at (j := 175) (p := 1262) (by decide +kernel) rfl
theorem np_Mo_restore : nP M_Mo_restore = 3 := by decide +kernel
theorem dc_La_law_1166 : decode M_La_law.2.1 1166 = .ok (.istore 6, 2) := by decide +kernel
theorem dc_La_law_1168 : decode M_La_law.2.1 1168 = .ok (.aload_n 2, 1) := by decide +kernel
theorem dc_La_law_1169 : decode M_La_law.2.1 1169 = .ok (.invokevirtual 99, 3) := by decide +kernel
theorem dc_La_law_1172 : decode M_La_law.2.1 1172 = .ok (.iload 5, 2) := by decide +kernel
theorem dc_La_law_1174 : decode M_La_law.2.1 1174 = .ok (.if_icmp .eq 5, 3) := by decide +kernel
theorem dc_La_law_1179 : decode M_La_law.2.1 1179 = .ok (.iload 5, 2) := by decide +kernel
theorem dc_La_law_1181 : decode M_La_law.2.1 1181 = .ok (.ifCond .ne 15, 3) := by decide +kernel
theorem dc_La_law_1184 : decode M_La_law.2.1 1184 = .ok (.aload_n 3, 1) := by decide +kernel
theorem dc_La_law_1185 : decode M_La_law.2.1 1185 = .ok (.iconst 0, 1) := by decide +kernel
theorem dc_La_law_1186 : decode M_La_law.2.1 1186 = .ok (.laload, 1) := by decide +kernel
theorem dc_La_law_1187 : decode M_La_law.2.1 1187 = .ok (.iload 6, 2) := by decide +kernel
theorem dc_La_law_1189 : decode M_La_law.2.1 1189 = .ok (.i2l, 1) := by decide +kernel
theorem dc_La_law_1190 : decode M_La_law.2.1 1190 = .ok (.lcmp, 1) := by decide +kernel
theorem dc_La_law_1191 : decode M_La_law.2.1 1191 = .ok (.ifCond .eq 5, 3) := by decide +kernel
theorem dc_La_law_1194 : decode M_La_law.2.1 1194 = .ok (.iconst 0, 1) := by decide +kernel
theorem dc_La_law_1195 : decode M_La_law.2.1 1195 = .ok (.ireturn, 1) := by decide +kernel
theorem dc_La_law_1177 : decode M_La_law.2.1 1177 = .ok (.iconst 0, 1) := by decide +kernel
theorem dc_La_law_1178 : decode M_La_law.2.1 1178 = .ok (.ireturn, 1) := by decide +kernel
theorem dc_La_law_1196 : decode M_La_law.2.1 1196 = .ok (.goto 484, 3) := by decide +kernel
theorem dc_La_law_1199 : decode M_La_law.2.1 1199 = .ok (.aload_n 1, 1) := by decide +kernel
theorem dc_La_law_1200 : decode M_La_law.2.1 1200 = .ok (.aload_n 0, 1) := by decide +kernel
theorem dc_La_law_1201 : decode M_La_law.2.1 1201 = .ok (.iload 4, 2) := by decide +kernel
theorem dc_La_law_1203 : decode M_La_law.2.1 1203 = .ok (.iconst 1, 1) := by decide +kernel
theorem dc_La_law_1204 : decode M_La_law.2.1 1204 = .ok (.iadd, 1) := by decide +kernel
theorem dc_La_law_1205 : decode M_La_law.2.1 1205 = .ok (.iaload, 1) := by decide +kernel
theorem dc_La_law_1206 : decode M_La_law.2.1 1206 = .ok (.invokevirtual 151, 3) := by decide +kernel
theorem km_11_151 : rM 11 151 = some (1, M_FB_restored) := rM_at (j := 6) (p := 201) (by decide +kernel) rfl
theorem np_FB_restored : nP M_FB_restored = 1 := by decide +kernel
theorem dc_La_law_1209 : decode M_La_law.2.1 1209 = .ok (.aload_n 2, 1) := by decide +kernel
theorem dc_La_law_1210 : decode M_La_law.2.1 1210 = .ok (.aload_n 0, 1) := by decide +kernel
theorem dc_La_law_1211 : decode M_La_law.2.1 1211 = .ok (.iload 4, 2) := by decide +kernel
theorem dc_La_law_1213 : decode M_La_law.2.1 1213 = .ok (.iconst 1, 1) := by decide +kernel
theorem dc_La_law_1214 : decode M_La_law.2.1 1214 = .ok (.iadd, 1) := by decide +kernel
theorem dc_La_law_1215 : decode M_La_law.2.1 1215 = .ok (.iaload, 1) := by decide +kernel
theorem dc_La_law_1216 : decode M_La_law.2.1 1216 = .ok (.invokevirtual 154, 3) := by decide +kernel
theorem km_11_154 : rM 11 154 = some (1, M_Mo_restored) := rM_at (j := 177) (p := 1270) (by decide +kernel) rfl
theorem np_Mo_restored : nP M_Mo_restored = 1 := by decide +kernel
theorem dc_La_law_1219 : decode M_La_law.2.1 1219 = .ok (.if_icmp .eq 461, 3) := by decide +kernel
theorem dc_La_law_1222 : decode M_La_law.2.1 1222 = .ok (.iconst 0, 1) := by decide +kernel
theorem dc_La_law_1223 : decode M_La_law.2.1 1223 = .ok (.ireturn, 1) := by decide +kernel
theorem dc_La_law_1224 : decode M_La_law.2.1 1224 = .ok (.aload_n 1, 1) := by decide +kernel
theorem dc_La_law_1225 : decode M_La_law.2.1 1225 = .ok (.aload_n 0, 1) := by decide +kernel
theorem dc_La_law_1226 : decode M_La_law.2.1 1226 = .ok (.iload 4, 2) := by decide +kernel
theorem dc_La_law_1228 : decode M_La_law.2.1 1228 = .ok (.iconst 1, 1) := by decide +kernel
theorem dc_La_law_1229 : decode M_La_law.2.1 1229 = .ok (.iadd, 1) := by decide +kernel
theorem dc_La_law_1230 : decode M_La_law.2.1 1230 = .ok (.iaload, 1) := by decide +kernel
theorem dc_La_law_1231 : decode M_La_law.2.1 1231 = .ok (.aload_n 0, 1) := by decide +kernel
theorem dc_La_law_1232 : decode M_La_law.2.1 1232 = .ok (.iload 4, 2) := by decide +kernel
theorem dc_La_law_1234 : decode M_La_law.2.1 1234 = .ok (.iconst 2, 1) := by decide +kernel
theorem dc_La_law_1235 : decode M_La_law.2.1 1235 = .ok (.iadd, 1) := by decide +kernel
theorem dc_La_law_1236 : decode M_La_law.2.1 1236 = .ok (.iaload, 1) := by decide +kernel
theorem dc_La_law_1237 : decode M_La_law.2.1 1237 = .ok (.aload_n 3, 1) := by decide +kernel
theorem dc_La_law_1238 : decode M_La_law.2.1 1238 = .ok (.invokestatic 155, 3) := by decide +kernel
theorem km_11_155 : rM 11 155 = some (0, M_La_forget) := rM_at (j := 110) (p := 894) (by decide +kernel) rfl
theorem np_La_forget : nP M_La_forget = 4 := by decide +kernel
theorem dc_La_law_1241 : decode M_La_law.2.1 1241 = .ok (.istore 5, 2) := by decide +kernel
theorem dc_La_law_1243 : decode M_La_law.2.1 1243 = .ok (.aload_n 2, 1) := by decide +kernel
theorem dc_La_law_1244 : decode M_La_law.2.1 1244 = .ok (.aload_n 0, 1) := by decide +kernel
theorem dc_La_law_1245 : decode M_La_law.2.1 1245 = .ok (.iload 4, 2) := by decide +kernel
theorem dc_La_law_1247 : decode M_La_law.2.1 1247 = .ok (.iconst 1, 1) := by decide +kernel
theorem dc_La_law_1248 : decode M_La_law.2.1 1248 = .ok (.iadd, 1) := by decide +kernel
theorem dc_La_law_1249 : decode M_La_law.2.1 1249 = .ok (.iaload, 1) := by decide +kernel
theorem dc_La_law_1250 : decode M_La_law.2.1 1250 = .ok (.aload_n 0, 1) := by decide +kernel
theorem dc_La_law_1251 : decode M_La_law.2.1 1251 = .ok (.iload 4, 2) := by decide +kernel
theorem dc_La_law_1253 : decode M_La_law.2.1 1253 = .ok (.iconst 2, 1) := by decide +kernel
theorem dc_La_law_1254 : decode M_La_law.2.1 1254 = .ok (.iadd, 1) := by decide +kernel
theorem dc_La_law_1255 : decode M_La_law.2.1 1255 = .ok (.iaload, 1) := by decide +kernel
theorem dc_La_law_1256 : decode M_La_law.2.1 1256 = .ok (.invokevirtual 158, 3) := by decide +kernel
theorem km_11_158 : rM 11 158 = some (1, M_Mo_forget) := rM_at (j := 178) (p := 1274) (by decide +kernel) rfl
theorem np_Mo_forget : nP M_Mo_forget = 2 := by decide +kernel
theorem dc_La_law_1259 : decode M_La_law.2.1 1259 = .ok (.istore 6, 2) := by decide +kernel
theorem dc_La_law_1261 : decode M_La_law.2.1 1261 = .ok (.aload_n 2, 1) := by decide +kernel
theorem dc_La_law_1262 : decode M_La_law.2.1 1262 = .ok (.invokevirtual 99, 3) := by decide +kernel
theorem dc_La_law_1265 : decode M_La_law.2.1 1265 = .ok (.iload 5, 2) := by decide +kernel
theorem dc_La_law_1267 : decode M_La_law.2.1 1267 = .ok (.if_icmp .eq 5, 3) := by decide +kernel
theorem dc_La_law_1272 : decode M_La_law.2.1 1272 = .ok (.iload 5, 2) := by decide +kernel
theorem dc_La_law_1274 : decode M_La_law.2.1 1274 = .ok (.ifCond .ne 15, 3) := by decide +kernel
theorem dc_La_law_1277 : decode M_La_law.2.1 1277 = .ok (.aload_n 3, 1) := by decide +kernel
theorem dc_La_law_1278 : decode M_La_law.2.1 1278 = .ok (.iconst 0, 1) := by decide +kernel
theorem dc_La_law_1279 : decode M_La_law.2.1 1279 = .ok (.laload, 1) := by decide +kernel
theorem dc_La_law_1280 : decode M_La_law.2.1 1280 = .ok (.iload 6, 2) := by decide +kernel
theorem dc_La_law_1282 : decode M_La_law.2.1 1282 = .ok (.i2l, 1) := by decide +kernel
theorem dc_La_law_1283 : decode M_La_law.2.1 1283 = .ok (.lcmp, 1) := by decide +kernel
theorem dc_La_law_1284 : decode M_La_law.2.1 1284 = .ok (.ifCond .eq 5, 3) := by decide +kernel
theorem dc_La_law_1287 : decode M_La_law.2.1 1287 = .ok (.iconst 0, 1) := by decide +kernel
theorem dc_La_law_1288 : decode M_La_law.2.1 1288 = .ok (.ireturn, 1) := by decide +kernel
theorem dc_La_law_1270 : decode M_La_law.2.1 1270 = .ok (.iconst 0, 1) := by decide +kernel
theorem dc_La_law_1271 : decode M_La_law.2.1 1271 = .ok (.ireturn, 1) := by decide +kernel
theorem dc_La_law_1289 : decode M_La_law.2.1 1289 = .ok (.goto 391, 3) := by decide +kernel
theorem dc_La_law_1292 : decode M_La_law.2.1 1292 = .ok (.aload_n 1, 1) := by decide +kernel
theorem dc_La_law_1293 : decode M_La_law.2.1 1293 = .ok (.aload_n 0, 1) := by decide +kernel
theorem dc_La_law_1294 : decode M_La_law.2.1 1294 = .ok (.iload 4, 2) := by decide +kernel
theorem dc_La_law_1296 : decode M_La_law.2.1 1296 = .ok (.iconst 1, 1) := by decide +kernel
theorem dc_La_law_1297 : decode M_La_law.2.1 1297 = .ok (.iadd, 1) := by decide +kernel
theorem dc_La_law_1298 : decode M_La_law.2.1 1298 = .ok (.iaload, 1) := by decide +kernel
theorem dc_La_law_1299 : decode M_La_law.2.1 1299 = .ok (.aload_n 0, 1) := by decide +kernel
theorem dc_La_law_1300 : decode M_La_law.2.1 1300 = .ok (.iload 4, 2) := by decide +kernel
theorem dc_La_law_1302 : decode M_La_law.2.1 1302 = .ok (.iconst 2, 1) := by decide +kernel
theorem dc_La_law_1303 : decode M_La_law.2.1 1303 = .ok (.iadd, 1) := by decide +kernel
theorem dc_La_law_1304 : decode M_La_law.2.1 1304 = .ok (.iaload, 1) := by decide +kernel
theorem dc_La_law_1305 : decode M_La_law.2.1 1305 = .ok (.aload_n 3, 1) := by decide +kernel
theorem dc_La_law_1306 : decode M_La_law.2.1 1306 = .ok (.invokestatic 159, 3) := by decide +kernel
theorem km_11_159 : rM 11 159 = some (0, M_La_health) := rM_at (j := 114) (p := 909) (by decide +kernel) rfl
theorem np_La_health : nP M_La_health = 4 := by decide +kernel
theorem dc_La_law_1309 : decode M_La_law.2.1 1309 = .ok (.istore 5, 2) := by decide +kernel
theorem dc_La_law_1311 : decode M_La_law.2.1 1311 = .ok (.aload_n 2, 1) := by decide +kernel
theorem dc_La_law_1312 : decode M_La_law.2.1 1312 = .ok (.aload_n 0, 1) := by decide +kernel
theorem dc_La_law_1313 : decode M_La_law.2.1 1313 = .ok (.iload 4, 2) := by decide +kernel
theorem dc_La_law_1315 : decode M_La_law.2.1 1315 = .ok (.iconst 1, 1) := by decide +kernel
theorem dc_La_law_1316 : decode M_La_law.2.1 1316 = .ok (.iadd, 1) := by decide +kernel
theorem dc_La_law_1317 : decode M_La_law.2.1 1317 = .ok (.iaload, 1) := by decide +kernel
theorem dc_La_law_1318 : decode M_La_law.2.1 1318 = .ok (.aload_n 0, 1) := by decide +kernel
theorem dc_La_law_1319 : decode M_La_law.2.1 1319 = .ok (.iload 4, 2) := by decide +kernel
theorem dc_La_law_1321 : decode M_La_law.2.1 1321 = .ok (.iconst 2, 1) := by decide +kernel
theorem dc_La_law_1322 : decode M_La_law.2.1 1322 = .ok (.iadd, 1) := by decide +kernel
theorem dc_La_law_1323 : decode M_La_law.2.1 1323 = .ok (.iaload, 1) := by decide +kernel
theorem dc_La_law_1324 : decode M_La_law.2.1 1324 = .ok (.invokevirtual 161, 3) := by decide +kernel
theorem km_11_161 : rM 11 161 = some (1, M_Mo_health) := rM_at (j := 181) (p := 1286) (by decide +kernel) rfl
theorem np_Mo_health : nP M_Mo_health = 2 := by decide +kernel
theorem dc_La_law_1327 : decode M_La_law.2.1 1327 = .ok (.istore 6, 2) := by decide +kernel
theorem dc_La_law_1329 : decode M_La_law.2.1 1329 = .ok (.aload_n 2, 1) := by decide +kernel
theorem dc_La_law_1330 : decode M_La_law.2.1 1330 = .ok (.invokevirtual 99, 3) := by decide +kernel
theorem dc_La_law_1333 : decode M_La_law.2.1 1333 = .ok (.iload 5, 2) := by decide +kernel
theorem dc_La_law_1335 : decode M_La_law.2.1 1335 = .ok (.if_icmp .eq 5, 3) := by decide +kernel
theorem dc_La_law_1340 : decode M_La_law.2.1 1340 = .ok (.iload 5, 2) := by decide +kernel
theorem dc_La_law_1342 : decode M_La_law.2.1 1342 = .ok (.ifCond .ne 15, 3) := by decide +kernel
theorem dc_La_law_1345 : decode M_La_law.2.1 1345 = .ok (.aload_n 3, 1) := by decide +kernel
theorem dc_La_law_1346 : decode M_La_law.2.1 1346 = .ok (.iconst 0, 1) := by decide +kernel
theorem dc_La_law_1347 : decode M_La_law.2.1 1347 = .ok (.laload, 1) := by decide +kernel
theorem dc_La_law_1348 : decode M_La_law.2.1 1348 = .ok (.iload 6, 2) := by decide +kernel
theorem dc_La_law_1350 : decode M_La_law.2.1 1350 = .ok (.i2l, 1) := by decide +kernel
theorem dc_La_law_1351 : decode M_La_law.2.1 1351 = .ok (.lcmp, 1) := by decide +kernel
theorem dc_La_law_1352 : decode M_La_law.2.1 1352 = .ok (.ifCond .eq 5, 3) := by decide +kernel
theorem dc_La_law_1355 : decode M_La_law.2.1 1355 = .ok (.iconst 0, 1) := by decide +kernel
theorem dc_La_law_1356 : decode M_La_law.2.1 1356 = .ok (.ireturn, 1) := by decide +kernel
theorem dc_La_law_1338 : decode M_La_law.2.1 1338 = .ok (.iconst 0, 1) := by decide +kernel
theorem dc_La_law_1339 : decode M_La_law.2.1 1339 = .ok (.ireturn, 1) := by decide +kernel
theorem dc_La_law_1357 : decode M_La_law.2.1 1357 = .ok (.goto 323, 3) := by decide +kernel
theorem dc_La_law_1360 : decode M_La_law.2.1 1360 = .ok (.aload_n 1, 1) := by decide +kernel
theorem dc_La_law_1361 : decode M_La_law.2.1 1361 = .ok (.aload_n 0, 1) := by decide +kernel
theorem dc_La_law_1362 : decode M_La_law.2.1 1362 = .ok (.iload 4, 2) := by decide +kernel
theorem dc_La_law_1364 : decode M_La_law.2.1 1364 = .ok (.iconst 1, 1) := by decide +kernel
theorem dc_La_law_1365 : decode M_La_law.2.1 1365 = .ok (.iadd, 1) := by decide +kernel
theorem dc_La_law_1366 : decode M_La_law.2.1 1366 = .ok (.iaload, 1) := by decide +kernel
theorem dc_La_law_1367 : decode M_La_law.2.1 1367 = .ok (.aload_n 0, 1) := by decide +kernel
theorem dc_La_law_1368 : decode M_La_law.2.1 1368 = .ok (.iload 4, 2) := by decide +kernel
theorem dc_La_law_1370 : decode M_La_law.2.1 1370 = .ok (.iconst 2, 1) := by decide +kernel
theorem dc_La_law_1371 : decode M_La_law.2.1 1371 = .ok (.iadd, 1) := by decide +kernel
theorem dc_La_law_1372 : decode M_La_law.2.1 1372 = .ok (.iaload, 1) := by decide +kernel
theorem dc_La_law_1373 : decode M_La_law.2.1 1373 = .ok (.aload_n 0, 1) := by decide +kernel
theorem dc_La_law_1374 : decode M_La_law.2.1 1374 = .ok (.iload 4, 2) := by decide +kernel
theorem dc_La_law_1376 : decode M_La_law.2.1 1376 = .ok (.iconst 3, 1) := by decide +kernel
theorem dc_La_law_1377 : decode M_La_law.2.1 1377 = .ok (.iadd, 1) := by decide +kernel
theorem dc_La_law_1378 : decode M_La_law.2.1 1378 = .ok (.iaload, 1) := by decide +kernel
theorem dc_La_law_1379 : decode M_La_law.2.1 1379 = .ok (.aload_n 3, 1) := by decide +kernel
theorem dc_La_law_1380 : decode M_La_law.2.1 1380 = .ok (.invokestatic 162, 3) := by decide +kernel
theorem km_11_162 : rM 11 162 = some (0, M_La_keeper) := rM_at (j := 116) (p := 916) (by decide +kernel) rfl
theorem np_La_keeper : nP M_La_keeper = 5 := by decide +kernel
theorem dc_La_law_1383 : decode M_La_law.2.1 1383 = .ok (.istore 5, 2) := by decide +kernel
theorem dc_La_law_1385 : decode M_La_law.2.1 1385 = .ok (.aload_n 2, 1) := by decide +kernel
theorem dc_La_law_1386 : decode M_La_law.2.1 1386 = .ok (.aload_n 0, 1) := by decide +kernel
theorem dc_La_law_1387 : decode M_La_law.2.1 1387 = .ok (.iload 4, 2) := by decide +kernel
theorem dc_La_law_1389 : decode M_La_law.2.1 1389 = .ok (.iconst 1, 1) := by decide +kernel
theorem dc_La_law_1390 : decode M_La_law.2.1 1390 = .ok (.iadd, 1) := by decide +kernel
theorem dc_La_law_1391 : decode M_La_law.2.1 1391 = .ok (.iaload, 1) := by decide +kernel
theorem dc_La_law_1392 : decode M_La_law.2.1 1392 = .ok (.aload_n 0, 1) := by decide +kernel
theorem dc_La_law_1393 : decode M_La_law.2.1 1393 = .ok (.iload 4, 2) := by decide +kernel
theorem dc_La_law_1395 : decode M_La_law.2.1 1395 = .ok (.iconst 2, 1) := by decide +kernel
theorem dc_La_law_1396 : decode M_La_law.2.1 1396 = .ok (.iadd, 1) := by decide +kernel
theorem dc_La_law_1397 : decode M_La_law.2.1 1397 = .ok (.iaload, 1) := by decide +kernel
theorem dc_La_law_1398 : decode M_La_law.2.1 1398 = .ok (.aload_n 0, 1) := by decide +kernel
theorem dc_La_law_1399 : decode M_La_law.2.1 1399 = .ok (.iload 4, 2) := by decide +kernel
theorem dc_La_law_1401 : decode M_La_law.2.1 1401 = .ok (.iconst 3, 1) := by decide +kernel
theorem dc_La_law_1402 : decode M_La_law.2.1 1402 = .ok (.iadd, 1) := by decide +kernel
theorem dc_La_law_1403 : decode M_La_law.2.1 1403 = .ok (.iaload, 1) := by decide +kernel
theorem dc_La_law_1404 : decode M_La_law.2.1 1404 = .ok (.invokevirtual 164, 3) := by decide +kernel
theorem km_11_164 : rM 11 164 = some (1, M_Mo_keeper) := rM_at (j := 182) (p := 1290) (by decide +kernel) rfl
theorem np_Mo_keeper : nP M_Mo_keeper = 3 := by decide +kernel
theorem dc_La_law_1407 : decode M_La_law.2.1 1407 = .ok (.istore 6, 2) := by decide +kernel
theorem dc_La_law_1409 : decode M_La_law.2.1 1409 = .ok (.aload_n 2, 1) := by decide +kernel
theorem dc_La_law_1410 : decode M_La_law.2.1 1410 = .ok (.invokevirtual 99, 3) := by decide +kernel
theorem dc_La_law_1413 : decode M_La_law.2.1 1413 = .ok (.iload 5, 2) := by decide +kernel
theorem dc_La_law_1415 : decode M_La_law.2.1 1415 = .ok (.if_icmp .eq 5, 3) := by decide +kernel
theorem dc_La_law_1420 : decode M_La_law.2.1 1420 = .ok (.iload 5, 2) := by decide +kernel
theorem dc_La_law_1422 : decode M_La_law.2.1 1422 = .ok (.ifCond .ne 15, 3) := by decide +kernel
theorem dc_La_law_1425 : decode M_La_law.2.1 1425 = .ok (.aload_n 3, 1) := by decide +kernel
theorem dc_La_law_1426 : decode M_La_law.2.1 1426 = .ok (.iconst 0, 1) := by decide +kernel
theorem dc_La_law_1427 : decode M_La_law.2.1 1427 = .ok (.laload, 1) := by decide +kernel
theorem dc_La_law_1428 : decode M_La_law.2.1 1428 = .ok (.iload 6, 2) := by decide +kernel
theorem dc_La_law_1430 : decode M_La_law.2.1 1430 = .ok (.i2l, 1) := by decide +kernel
theorem dc_La_law_1431 : decode M_La_law.2.1 1431 = .ok (.lcmp, 1) := by decide +kernel
theorem dc_La_law_1432 : decode M_La_law.2.1 1432 = .ok (.ifCond .eq 5, 3) := by decide +kernel
theorem dc_La_law_1435 : decode M_La_law.2.1 1435 = .ok (.iconst 0, 1) := by decide +kernel
theorem dc_La_law_1436 : decode M_La_law.2.1 1436 = .ok (.ireturn, 1) := by decide +kernel
theorem dc_La_law_1418 : decode M_La_law.2.1 1418 = .ok (.iconst 0, 1) := by decide +kernel
theorem dc_La_law_1419 : decode M_La_law.2.1 1419 = .ok (.ireturn, 1) := by decide +kernel
theorem dc_La_law_1437 : decode M_La_law.2.1 1437 = .ok (.goto 243, 3) := by decide +kernel
theorem dc_La_law_1440 : decode M_La_law.2.1 1440 = .ok (.aload_n 1, 1) := by decide +kernel
theorem dc_La_law_1441 : decode M_La_law.2.1 1441 = .ok (.aload_n 0, 1) := by decide +kernel
theorem dc_La_law_1442 : decode M_La_law.2.1 1442 = .ok (.iload 4, 2) := by decide +kernel
theorem dc_La_law_1444 : decode M_La_law.2.1 1444 = .ok (.iconst 1, 1) := by decide +kernel
theorem dc_La_law_1445 : decode M_La_law.2.1 1445 = .ok (.iadd, 1) := by decide +kernel
theorem dc_La_law_1446 : decode M_La_law.2.1 1446 = .ok (.iaload, 1) := by decide +kernel
theorem dc_La_law_1447 : decode M_La_law.2.1 1447 = .ok (.aload_n 0, 1) := by decide +kernel
theorem dc_La_law_1448 : decode M_La_law.2.1 1448 = .ok (.iload 4, 2) := by decide +kernel
theorem dc_La_law_1450 : decode M_La_law.2.1 1450 = .ok (.iconst 2, 1) := by decide +kernel
theorem dc_La_law_1451 : decode M_La_law.2.1 1451 = .ok (.iadd, 1) := by decide +kernel
theorem dc_La_law_1452 : decode M_La_law.2.1 1452 = .ok (.iaload, 1) := by decide +kernel
theorem dc_La_law_1453 : decode M_La_law.2.1 1453 = .ok (.aload_n 3, 1) := by decide +kernel
theorem dc_La_law_1454 : decode M_La_law.2.1 1454 = .ok (.invokestatic 165, 3) := by decide +kernel
theorem km_11_165 : rM 11 165 = some (0, M_La_count) := rM_at (j := 118) (p := 923) (by decide +kernel) rfl
theorem np_La_count : nP M_La_count = 4 := by decide +kernel
theorem dc_La_law_1457 : decode M_La_law.2.1 1457 = .ok (.istore 5, 2) := by decide +kernel
theorem dc_La_law_1459 : decode M_La_law.2.1 1459 = .ok (.aload_n 2, 1) := by decide +kernel
theorem dc_La_law_1460 : decode M_La_law.2.1 1460 = .ok (.aload_n 0, 1) := by decide +kernel
theorem dc_La_law_1461 : decode M_La_law.2.1 1461 = .ok (.iload 4, 2) := by decide +kernel
theorem dc_La_law_1463 : decode M_La_law.2.1 1463 = .ok (.iconst 1, 1) := by decide +kernel
theorem dc_La_law_1464 : decode M_La_law.2.1 1464 = .ok (.iadd, 1) := by decide +kernel
theorem dc_La_law_1465 : decode M_La_law.2.1 1465 = .ok (.iaload, 1) := by decide +kernel
theorem dc_La_law_1466 : decode M_La_law.2.1 1466 = .ok (.aload_n 0, 1) := by decide +kernel
theorem dc_La_law_1467 : decode M_La_law.2.1 1467 = .ok (.iload 4, 2) := by decide +kernel
theorem dc_La_law_1469 : decode M_La_law.2.1 1469 = .ok (.iconst 2, 1) := by decide +kernel
theorem dc_La_law_1470 : decode M_La_law.2.1 1470 = .ok (.iadd, 1) := by decide +kernel
theorem dc_La_law_1471 : decode M_La_law.2.1 1471 = .ok (.iaload, 1) := by decide +kernel
theorem dc_La_law_1472 : decode M_La_law.2.1 1472 = .ok (.invokevirtual 167, 3) := by decide +kernel
theorem km_11_167 : rM 11 167 = some (1, M_Mo_count) := rM_at (j := 183) (p := 1294) (by decide +kernel) rfl
theorem np_Mo_count : nP M_Mo_count = 2 := by decide +kernel
theorem dc_La_law_1475 : decode M_La_law.2.1 1475 = .ok (.istore 6, 2) := by decide +kernel
theorem dc_La_law_1477 : decode M_La_law.2.1 1477 = .ok (.aload_n 2, 1) := by decide +kernel
theorem dc_La_law_1478 : decode M_La_law.2.1 1478 = .ok (.invokevirtual 99, 3) := by decide +kernel
theorem dc_La_law_1481 : decode M_La_law.2.1 1481 = .ok (.iload 5, 2) := by decide +kernel
theorem dc_La_law_1483 : decode M_La_law.2.1 1483 = .ok (.if_icmp .eq 5, 3) := by decide +kernel
theorem dc_La_law_1488 : decode M_La_law.2.1 1488 = .ok (.iload 5, 2) := by decide +kernel
theorem dc_La_law_1490 : decode M_La_law.2.1 1490 = .ok (.ifCond .ne 15, 3) := by decide +kernel
theorem dc_La_law_1493 : decode M_La_law.2.1 1493 = .ok (.aload_n 3, 1) := by decide +kernel
theorem dc_La_law_1494 : decode M_La_law.2.1 1494 = .ok (.iconst 0, 1) := by decide +kernel
theorem dc_La_law_1495 : decode M_La_law.2.1 1495 = .ok (.laload, 1) := by decide +kernel
theorem dc_La_law_1496 : decode M_La_law.2.1 1496 = .ok (.iload 6, 2) := by decide +kernel
theorem dc_La_law_1498 : decode M_La_law.2.1 1498 = .ok (.i2l, 1) := by decide +kernel
theorem dc_La_law_1499 : decode M_La_law.2.1 1499 = .ok (.lcmp, 1) := by decide +kernel
theorem dc_La_law_1500 : decode M_La_law.2.1 1500 = .ok (.ifCond .eq 5, 3) := by decide +kernel
theorem dc_La_law_1503 : decode M_La_law.2.1 1503 = .ok (.iconst 0, 1) := by decide +kernel
theorem dc_La_law_1504 : decode M_La_law.2.1 1504 = .ok (.ireturn, 1) := by decide +kernel
theorem dc_La_law_1486 : decode M_La_law.2.1 1486 = .ok (.iconst 0, 1) := by decide +kernel
theorem dc_La_law_1487 : decode M_La_law.2.1 1487 = .ok (.ireturn, 1) := by decide +kernel
theorem dc_La_law_1505 : decode M_La_law.2.1 1505 = .ok (.goto 175, 3) := by decide +kernel
theorem dc_La_law_1508 : decode M_La_law.2.1 1508 = .ok (.aload_n 1, 1) := by decide +kernel
theorem dc_La_law_1509 : decode M_La_law.2.1 1509 = .ok (.aload_n 0, 1) := by decide +kernel
theorem dc_La_law_1510 : decode M_La_law.2.1 1510 = .ok (.iload 4, 2) := by decide +kernel
theorem dc_La_law_1512 : decode M_La_law.2.1 1512 = .ok (.iconst 1, 1) := by decide +kernel
theorem dc_La_law_1513 : decode M_La_law.2.1 1513 = .ok (.iadd, 1) := by decide +kernel
theorem dc_La_law_1514 : decode M_La_law.2.1 1514 = .ok (.iaload, 1) := by decide +kernel
theorem dc_La_law_1515 : decode M_La_law.2.1 1515 = .ok (.aload_n 0, 1) := by decide +kernel
theorem dc_La_law_1516 : decode M_La_law.2.1 1516 = .ok (.iload 4, 2) := by decide +kernel
theorem dc_La_law_1518 : decode M_La_law.2.1 1518 = .ok (.iconst 2, 1) := by decide +kernel
theorem dc_La_law_1519 : decode M_La_law.2.1 1519 = .ok (.iadd, 1) := by decide +kernel
theorem dc_La_law_1520 : decode M_La_law.2.1 1520 = .ok (.iaload, 1) := by decide +kernel
theorem dc_La_law_1521 : decode M_La_law.2.1 1521 = .ok (.aload_n 3, 1) := by decide +kernel
theorem dc_La_law_1522 : decode M_La_law.2.1 1522 = .ok (.invokestatic 168, 3) := by decide +kernel
theorem km_11_168 : rM 11 168 = some (0, M_La_stored) := rM_at (j := 122) (p := 938) (by decide +kernel) rfl
theorem np_La_stored : nP M_La_stored = 4 := by decide +kernel
theorem dc_La_law_1525 : decode M_La_law.2.1 1525 = .ok (.istore 5, 2) := by decide +kernel
theorem dc_La_law_1527 : decode M_La_law.2.1 1527 = .ok (.aload_n 2, 1) := by decide +kernel
theorem dc_La_law_1528 : decode M_La_law.2.1 1528 = .ok (.aload_n 0, 1) := by decide +kernel
theorem dc_La_law_1529 : decode M_La_law.2.1 1529 = .ok (.iload 4, 2) := by decide +kernel
theorem dc_La_law_1531 : decode M_La_law.2.1 1531 = .ok (.iconst 1, 1) := by decide +kernel
theorem dc_La_law_1532 : decode M_La_law.2.1 1532 = .ok (.iadd, 1) := by decide +kernel
theorem dc_La_law_1533 : decode M_La_law.2.1 1533 = .ok (.iaload, 1) := by decide +kernel
theorem dc_La_law_1534 : decode M_La_law.2.1 1534 = .ok (.aload_n 0, 1) := by decide +kernel
theorem dc_La_law_1535 : decode M_La_law.2.1 1535 = .ok (.iload 4, 2) := by decide +kernel
theorem dc_La_law_1537 : decode M_La_law.2.1 1537 = .ok (.iconst 2, 1) := by decide +kernel
theorem dc_La_law_1538 : decode M_La_law.2.1 1538 = .ok (.iadd, 1) := by decide +kernel
theorem dc_La_law_1539 : decode M_La_law.2.1 1539 = .ok (.iaload, 1) := by decide +kernel
theorem dc_La_law_1540 : decode M_La_law.2.1 1540 = .ok (.invokevirtual 170, 3) := by decide +kernel
theorem km_11_170 : rM 11 170 = some (1, M_Mo_stored) := rM_at (j := 185) (p := 1302) (by decide +kernel) rfl
theorem np_Mo_stored : nP M_Mo_stored = 2 := by decide +kernel
theorem dc_La_law_1543 : decode M_La_law.2.1 1543 = .ok (.istore 6, 2) := by decide +kernel
theorem dc_La_law_1545 : decode M_La_law.2.1 1545 = .ok (.aload_n 2, 1) := by decide +kernel
theorem dc_La_law_1546 : decode M_La_law.2.1 1546 = .ok (.invokevirtual 99, 3) := by decide +kernel
theorem dc_La_law_1549 : decode M_La_law.2.1 1549 = .ok (.iload 5, 2) := by decide +kernel
theorem dc_La_law_1551 : decode M_La_law.2.1 1551 = .ok (.if_icmp .eq 5, 3) := by decide +kernel
theorem dc_La_law_1556 : decode M_La_law.2.1 1556 = .ok (.iload 5, 2) := by decide +kernel
theorem dc_La_law_1558 : decode M_La_law.2.1 1558 = .ok (.ifCond .ne 15, 3) := by decide +kernel
theorem dc_La_law_1561 : decode M_La_law.2.1 1561 = .ok (.aload_n 3, 1) := by decide +kernel
theorem dc_La_law_1562 : decode M_La_law.2.1 1562 = .ok (.iconst 0, 1) := by decide +kernel
theorem dc_La_law_1563 : decode M_La_law.2.1 1563 = .ok (.laload, 1) := by decide +kernel
theorem dc_La_law_1564 : decode M_La_law.2.1 1564 = .ok (.iload 6, 2) := by decide +kernel
theorem dc_La_law_1566 : decode M_La_law.2.1 1566 = .ok (.i2l, 1) := by decide +kernel
theorem dc_La_law_1567 : decode M_La_law.2.1 1567 = .ok (.lcmp, 1) := by decide +kernel
theorem dc_La_law_1568 : decode M_La_law.2.1 1568 = .ok (.ifCond .eq 5, 3) := by decide +kernel
theorem dc_La_law_1571 : decode M_La_law.2.1 1571 = .ok (.iconst 0, 1) := by decide +kernel
theorem dc_La_law_1572 : decode M_La_law.2.1 1572 = .ok (.ireturn, 1) := by decide +kernel
theorem dc_La_law_1554 : decode M_La_law.2.1 1554 = .ok (.iconst 0, 1) := by decide +kernel
theorem dc_La_law_1555 : decode M_La_law.2.1 1555 = .ok (.ireturn, 1) := by decide +kernel
theorem dc_La_law_1573 : decode M_La_law.2.1 1573 = .ok (.goto 107, 3) := by decide +kernel
theorem dc_La_law_1576 : decode M_La_law.2.1 1576 = .ok (.aload_n 1, 1) := by decide +kernel
theorem dc_La_law_1577 : decode M_La_law.2.1 1577 = .ok (.aload_n 0, 1) := by decide +kernel
theorem dc_La_law_1578 : decode M_La_law.2.1 1578 = .ok (.iload 4, 2) := by decide +kernel
theorem dc_La_law_1580 : decode M_La_law.2.1 1580 = .ok (.iconst 1, 1) := by decide +kernel
theorem dc_La_law_1581 : decode M_La_law.2.1 1581 = .ok (.iadd, 1) := by decide +kernel
theorem dc_La_law_1582 : decode M_La_law.2.1 1582 = .ok (.iaload, 1) := by decide +kernel
theorem dc_La_law_1583 : decode M_La_law.2.1 1583 = .ok (.invokestatic 171, 3) := by decide +kernel
theorem km_11_171 : rM 11 171 = some (0, M_La_settle) := rM_at (j := 124) (p := 945) (by decide +kernel) rfl
theorem np_La_settle : nP M_La_settle = 2 := by decide +kernel
theorem dc_La_law_1586 : decode M_La_law.2.1 1586 = .ok (.istore 5, 2) := by decide +kernel
theorem dc_La_law_1588 : decode M_La_law.2.1 1588 = .ok (.aload_n 2, 1) := by decide +kernel
theorem dc_La_law_1589 : decode M_La_law.2.1 1589 = .ok (.aload_n 0, 1) := by decide +kernel
theorem dc_La_law_1590 : decode M_La_law.2.1 1590 = .ok (.iload 4, 2) := by decide +kernel
theorem dc_La_law_1592 : decode M_La_law.2.1 1592 = .ok (.iconst 1, 1) := by decide +kernel
theorem dc_La_law_1593 : decode M_La_law.2.1 1593 = .ok (.iadd, 1) := by decide +kernel
theorem dc_La_law_1594 : decode M_La_law.2.1 1594 = .ok (.iaload, 1) := by decide +kernel
theorem dc_La_law_1595 : decode M_La_law.2.1 1595 = .ok (.invokevirtual 173, 3) := by decide +kernel
theorem km_11_173 : rM 11 173 = some (1, M_Mo_settle) := rM_at (j := 186) (p := 1306) (by decide +kernel) rfl
theorem np_Mo_settle : nP M_Mo_settle = 1 := by decide +kernel
theorem dc_La_law_1598 : decode M_La_law.2.1 1598 = .ok (.aload_n 2, 1) := by decide +kernel
theorem dc_La_law_1599 : decode M_La_law.2.1 1599 = .ok (.invokevirtual 99, 3) := by decide +kernel
theorem dc_La_law_1602 : decode M_La_law.2.1 1602 = .ok (.iload 5, 2) := by decide +kernel
theorem dc_La_law_1604 : decode M_La_law.2.1 1604 = .ok (.if_icmp .eq 5, 3) := by decide +kernel
theorem dc_La_law_1609 : decode M_La_law.2.1 1609 = .ok (.goto 71, 3) := by decide +kernel
theorem dc_La_law_1607 : decode M_La_law.2.1 1607 = .ok (.iconst 0, 1) := by decide +kernel
theorem dc_La_law_1608 : decode M_La_law.2.1 1608 = .ok (.ireturn, 1) := by decide +kernel
theorem dc_La_law_1612 : decode M_La_law.2.1 1612 = .ok (.aload_n 1, 1) := by decide +kernel
theorem dc_La_law_1613 : decode M_La_law.2.1 1613 = .ok (.aload_n 0, 1) := by decide +kernel
theorem dc_La_law_1614 : decode M_La_law.2.1 1614 = .ok (.iload 4, 2) := by decide +kernel
theorem dc_La_law_1616 : decode M_La_law.2.1 1616 = .ok (.iconst 1, 1) := by decide +kernel
theorem dc_La_law_1617 : decode M_La_law.2.1 1617 = .ok (.iadd, 1) := by decide +kernel
theorem dc_La_law_1618 : decode M_La_law.2.1 1618 = .ok (.iaload, 1) := by decide +kernel
theorem dc_La_law_1619 : decode M_La_law.2.1 1619 = .ok (.aload_n 0, 1) := by decide +kernel
theorem dc_La_law_1620 : decode M_La_law.2.1 1620 = .ok (.iload 4, 2) := by decide +kernel
theorem dc_La_law_1622 : decode M_La_law.2.1 1622 = .ok (.iconst 2, 1) := by decide +kernel
theorem dc_La_law_1623 : decode M_La_law.2.1 1623 = .ok (.iadd, 1) := by decide +kernel
theorem dc_La_law_1624 : decode M_La_law.2.1 1624 = .ok (.iaload, 1) := by decide +kernel
theorem dc_La_law_1625 : decode M_La_law.2.1 1625 = .ok (.aload_n 3, 1) := by decide +kernel
theorem dc_La_law_1626 : decode M_La_law.2.1 1626 = .ok (.invokestatic 174, 3) := by decide +kernel
theorem km_11_174 : rM 11 174 = some (0, M_La_balance) := rM_at (j := 127) (p := 956) (by decide +kernel) rfl
theorem np_La_balance : nP M_La_balance = 4 := by decide +kernel
theorem dc_La_law_1629 : decode M_La_law.2.1 1629 = .ok (.istore 5, 2) := by decide +kernel
theorem dc_La_law_1631 : decode M_La_law.2.1 1631 = .ok (.aload_n 2, 1) := by decide +kernel
theorem dc_La_law_1632 : decode M_La_law.2.1 1632 = .ok (.aload_n 0, 1) := by decide +kernel
theorem dc_La_law_1633 : decode M_La_law.2.1 1633 = .ok (.iload 4, 2) := by decide +kernel
theorem dc_La_law_1635 : decode M_La_law.2.1 1635 = .ok (.iconst 1, 1) := by decide +kernel
theorem dc_La_law_1636 : decode M_La_law.2.1 1636 = .ok (.iadd, 1) := by decide +kernel
theorem dc_La_law_1637 : decode M_La_law.2.1 1637 = .ok (.iaload, 1) := by decide +kernel
theorem dc_La_law_1638 : decode M_La_law.2.1 1638 = .ok (.aload_n 0, 1) := by decide +kernel
theorem dc_La_law_1639 : decode M_La_law.2.1 1639 = .ok (.iload 4, 2) := by decide +kernel
theorem dc_La_law_1641 : decode M_La_law.2.1 1641 = .ok (.iconst 2, 1) := by decide +kernel
theorem dc_La_law_1642 : decode M_La_law.2.1 1642 = .ok (.iadd, 1) := by decide +kernel
theorem dc_La_law_1643 : decode M_La_law.2.1 1643 = .ok (.iaload, 1) := by decide +kernel
theorem dc_La_law_1644 : decode M_La_law.2.1 1644 = .ok (.invokevirtual 176, 3) := by decide +kernel
theorem km_11_176 : rM 11 176 = some (1, M_Mo_balance) := rM_at (j := 187) (p := 1310) (by decide +kernel) rfl
theorem np_Mo_balance : nP M_Mo_balance = 2 := by decide +kernel
theorem dc_La_law_1647 : decode M_La_law.2.1 1647 = .ok (.istore 6, 2) := by decide +kernel
theorem dc_La_law_1649 : decode M_La_law.2.1 1649 = .ok (.aload_n 2, 1) := by decide +kernel
theorem dc_La_law_1650 : decode M_La_law.2.1 1650 = .ok (.invokevirtual 99, 3) := by decide +kernel
theorem dc_La_law_1653 : decode M_La_law.2.1 1653 = .ok (.iload 5, 2) := by decide +kernel
theorem dc_La_law_1655 : decode M_La_law.2.1 1655 = .ok (.if_icmp .eq 5, 3) := by decide +kernel
theorem dc_La_law_1660 : decode M_La_law.2.1 1660 = .ok (.iload 5, 2) := by decide +kernel
theorem dc_La_law_1662 : decode M_La_law.2.1 1662 = .ok (.ifCond .ne 15, 3) := by decide +kernel
theorem dc_La_law_1665 : decode M_La_law.2.1 1665 = .ok (.aload_n 3, 1) := by decide +kernel
theorem dc_La_law_1666 : decode M_La_law.2.1 1666 = .ok (.iconst 0, 1) := by decide +kernel
theorem dc_La_law_1667 : decode M_La_law.2.1 1667 = .ok (.laload, 1) := by decide +kernel
theorem dc_La_law_1668 : decode M_La_law.2.1 1668 = .ok (.iload 6, 2) := by decide +kernel
theorem dc_La_law_1670 : decode M_La_law.2.1 1670 = .ok (.i2l, 1) := by decide +kernel
theorem dc_La_law_1671 : decode M_La_law.2.1 1671 = .ok (.lcmp, 1) := by decide +kernel
theorem dc_La_law_1672 : decode M_La_law.2.1 1672 = .ok (.ifCond .eq 5, 3) := by decide +kernel
theorem dc_La_law_1675 : decode M_La_law.2.1 1675 = .ok (.iconst 0, 1) := by decide +kernel
theorem dc_La_law_1676 : decode M_La_law.2.1 1676 = .ok (.ireturn, 1) := by decide +kernel
theorem dc_La_law_1658 : decode M_La_law.2.1 1658 = .ok (.iconst 0, 1) := by decide +kernel
theorem dc_La_law_1659 : decode M_La_law.2.1 1659 = .ok (.ireturn, 1) := by decide +kernel
theorem dc_La_law_1677 : decode M_La_law.2.1 1677 = .ok (.goto 3, 3) := by decide +kernel
theorem dc_La_law_1680 : decode M_La_law.2.1 1680 = .ok (.iinc 4 6, 3) := by decide +kernel
theorem dc_La_law_1683 : decode M_La_law.2.1 1683 = .ok (.goto (-1660), 3) := by decide +kernel
