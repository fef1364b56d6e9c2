theorem sh_0 : shapes[0]? = some (.inl (8, [some 1, some 9, some 13, some 16, some 20, some 25, some 27, some 30, some 32, none, none])) := rfl
theorem sh_1 : shapes[1]? = some (.inl (5, [some 2, some 3, some 4, some 5, some 6, some 7, some 8, none, none])) := rfl
theorem sh_2 : shapes[2]? = some (.inr (false, 12)) := rfl
theorem sh_3 : shapes[3]? = some (.inr (false, 12)) := rfl
theorem sh_4 : shapes[4]? = some (.inr (true, 12)) := rfl
theorem sh_5 : shapes[5]? = some (.inr (false, 12)) := rfl
theorem sh_6 : shapes[6]? = some (.inr (false, 16)) := rfl
theorem sh_7 : shapes[7]? = some (.inr (false, 16)) := rfl
theorem sh_8 : shapes[8]? = some (.inr (true, 1280)) := rfl
theorem sh_9 : shapes[9]? = some (.inl (1, [some 10, some 11, some 12, none])) := rfl
theorem sh_10 : shapes[10]? = some (.inr (false, 32)) := rfl
theorem sh_11 : shapes[11]? = some (.inr (false, 64)) := rfl
theorem sh_12 : shapes[12]? = some (.inr (false, 8)) := rfl
theorem sh_13 : shapes[13]? = some (.inl (7, [some 9, some 14])) := rfl
theorem sh_14 : shapes[14]? = some (.inl (2, [some 15])) := rfl
theorem sh_15 : shapes[15]? = some (.inr (false, 1016)) := rfl
theorem sh_16 : shapes[16]? = some (.inl (4, [some 9, some 13, some 17, some 18, none])) := rfl
theorem sh_17 : shapes[17]? = some (.inr (false, 720)) := rfl
theorem sh_18 : shapes[18]? = some (.inl (2, [some 19])) := rfl
theorem sh_19 : shapes[19]? = some (.inr (false, 488)) := rfl
theorem sh_20 : shapes[20]? = some (.inl (6, [some 13, some 21, some 23, some 24, none, none])) := rfl
theorem sh_21 : shapes[21]? = some (.inl (2, [some 22])) := rfl
theorem sh_22 : shapes[22]? = some (.inr (false, 64)) := rfl
theorem sh_23 : shapes[23]? = some (.inr (false, 8)) := rfl
theorem sh_24 : shapes[24]? = some (.inr (false, 8)) := rfl
theorem sh_25 : shapes[25]? = some (.inl (2, [some 26])) := rfl
theorem sh_26 : shapes[26]? = some (.inr (false, 32)) := rfl
theorem sh_27 : shapes[27]? = some (.inl (3, [some 9, some 20, some 25, some 28, none, none])) := rfl
theorem sh_28 : shapes[28]? = some (.inl (2, [some 29])) := rfl
theorem sh_29 : shapes[29]? = some (.inr (false, 16)) := rfl
theorem sh_30 : shapes[30]? = some (.inl (0, [some 31, none, none])) := rfl
theorem sh_31 : shapes[31]? = some (.inr (false, 1020)) := rfl
theorem sh_32 : shapes[32]? = some (.inl (2, [some 33])) := rfl
theorem sh_33 : shapes[33]? = some (.inr (false, 8)) := rfl
theorem sh_34 : shapes[34]? = some (.inl (9, [some 35, some 36, some 37, some 38, none, some 39, none, some 40, some 41, some 42, some 43, some 44, some 45, some 46, none, none, none, none, some 47, some 48, none, none, some 49, some 50, some 51, some 52, none, some 53, some 54, some 55, some 56, some 57, some 58, some 59])) := rfl
theorem sh_35 : shapes[35]? = some (.inr (false, 64)) := rfl
theorem sh_36 : shapes[36]? = some (.inr (false, 64)) := rfl
theorem sh_37 : shapes[37]? = some (.inr (false, 8)) := rfl
theorem sh_38 : shapes[38]? = some (.inr (false, 128)) := rfl
theorem sh_39 : shapes[39]? = some (.inr (false, 32)) := rfl
theorem sh_40 : shapes[40]? = some (.inr (false, 12)) := rfl
theorem sh_41 : shapes[41]? = some (.inr (false, 12)) := rfl
theorem sh_42 : shapes[42]? = some (.inr (true, 12)) := rfl
theorem sh_43 : shapes[43]? = some (.inr (false, 12)) := rfl
theorem sh_44 : shapes[44]? = some (.inr (false, 16)) := rfl
theorem sh_45 : shapes[45]? = some (.inr (false, 16)) := rfl
theorem sh_46 : shapes[46]? = some (.inr (true, 1024)) := rfl
theorem sh_47 : shapes[47]? = some (.inr (false, 720)) := rfl
theorem sh_48 : shapes[48]? = some (.inr (false, 1952)) := rfl
theorem sh_49 : shapes[49]? = some (.inr (false, 1020)) := rfl
theorem sh_50 : shapes[50]? = some (.inr (false, 256)) := rfl
theorem sh_51 : shapes[51]? = some (.inr (false, 8)) := rfl
theorem sh_52 : shapes[52]? = some (.inr (false, 32)) := rfl
theorem sh_53 : shapes[53]? = some (.inr (false, 256)) := rfl
theorem sh_54 : shapes[54]? = some (.inr (false, 8)) := rfl
theorem sh_55 : shapes[55]? = some (.inr (false, 8)) := rfl
theorem sh_56 : shapes[56]? = some (.inr (false, 128)) := rfl
theorem sh_57 : shapes[57]? = some (.inr (false, 32)) := rfl
theorem sh_58 : shapes[58]? = some (.inr (false, 32)) := rfl
theorem sh_59 : shapes[59]? = some (.inr (false, 288)) := rfl
theorem gd0 : ∀ w ∈ u_ws RX0 TX0 3, w ∈ gtbl := fun w h => gtbl_of (inX0 w h) ((by decide +kernel : ∀ w ∈ wsX00, goodWord w = true) w h)
theorem gd1 : ∀ w ∈ u_ws RX1 TX1 4, w ∈ gtbl := fun w h => gtbl_of (inX1 w h) ((by decide +kernel : ∀ w ∈ wsX10, goodWord w = true) w h)
theorem gd2 : ∀ w ∈ u_ws RX2 TX2 1, w ∈ gtbl := fun w h => gtbl_of (inX2 w h) ((by decide +kernel : ∀ w ∈ wsX20, goodWord w = true) w h)
theorem gd3 : ∀ w ∈ u_ws RX3 TX3 6, w ∈ gtbl := fun w h => gtbl_of (inX3 w h) ((by decide +kernel : ∀ w ∈ wsX30, goodWord w = true) w h)
theorem gd4 : ∀ w ∈ u_ws RX4 TX4 5, w ∈ gtbl := fun w h => gtbl_of (inX4 w h) ((by decide +kernel : ∀ w ∈ wsX40, goodWord w = true) w h)
theorem gd5 : ∀ w ∈ u_ws RX5 TX5 9, w ∈ gtbl := fun w h => gtbl_of (inX5 w h) ((by decide +kernel : ∀ w ∈ wsX50, goodWord w = true) w h)
theorem gd6 : ∀ w ∈ u_ws RX6 TX6 6, w ∈ gtbl := fun w h => gtbl_of (inX6 w h) ((by decide +kernel : ∀ w ∈ wsX60, goodWord w = true) w h)
theorem gd7 : ∀ w ∈ u_ws RX7 TX7 2, w ∈ gtbl := fun w h => gtbl_of (inX7 w h) ((by decide +kernel : ∀ w ∈ wsX70, goodWord w = true) w h)
theorem gd8 : ∀ w ∈ u_ws RX8 TX8 11, w ∈ gtbl := fun w h => gtbl_of (inX8 w h) ((by decide +kernel : ∀ w ∈ wsX80, goodWord w = true) w h)
theorem gd9 : ∀ w ∈ u_ws RX9 TX9 34, w ∈ gtbl := fun w h => gtbl_of (inX9 w h) ((by decide +kernel : ∀ w ∈ wsX90, goodWord w = true) w h)
def rmD (d : Nat) : Room := { frames := d, cells := 0, slots := 0, locals := 32 * d }
theorem lk_X8_12 : Cond.fieldLink RX8 12 (TX8 0).1 (TX8 0).2.1 (TX8 0).2.2.1 ∈ gtbl := gtbl_of (List.mem_of_getElem? (i := 279) (by decide +kernel)) (by decide +kernel)
theorem lk_X8_19 : Cond.fieldLink RX8 19 (TX8 1).1 (TX8 1).2.1 (TX8 1).2.2.1 ∈ gtbl := gtbl_of (List.mem_of_getElem? (i := 280) (by decide +kernel)) (by decide +kernel)
theorem lk_X8_28 : Cond.fieldLink RX8 28 (TX8 2).1 (TX8 2).2.1 (TX8 2).2.2.1 ∈ gtbl := gtbl_of (List.mem_of_getElem? (i := 281) (by decide +kernel)) (by decide +kernel)
theorem lk_X8_37 : Cond.fieldLink RX8 37 (TX8 3).1 (TX8 3).2.1 (TX8 3).2.2.1 ∈ gtbl := gtbl_of (List.mem_of_getElem? (i := 282) (by decide +kernel)) (by decide +kernel)
theorem lk_X8_46 : Cond.fieldLink RX8 46 (TX8 4).1 (TX8 4).2.1 (TX8 4).2.2.1 ∈ gtbl := gtbl_of (List.mem_of_getElem? (i := 283) (by decide +kernel)) (by decide +kernel)
theorem lk_X8_55 : Cond.fieldLink RX8 55 (TX8 5).1 (TX8 5).2.1 (TX8 5).2.2.1 ∈ gtbl := gtbl_of (List.mem_of_getElem? (i := 284) (by decide +kernel)) (by decide +kernel)
theorem lk_X8_64 : Cond.fieldLink RX8 64 (TX8 6).1 (TX8 6).2.1 (TX8 6).2.2.1 ∈ gtbl := gtbl_of (List.mem_of_getElem? (i := 285) (by decide +kernel)) (by decide +kernel)
theorem lk_X8_71 : Cond.fieldLink RX8 71 (TX8 7).1 (TX8 7).2.1 (TX8 7).2.2.1 ∈ gtbl := gtbl_of (List.mem_of_getElem? (i := 286) (by decide +kernel)) (by decide +kernel)
theorem lk_X8_75 : Cond.fieldLink RX8 75 (TX8 8).1 (TX8 8).2.1 (TX8 8).2.2.1 ∈ gtbl := gtbl_of (List.mem_of_getElem? (i := 287) (by decide +kernel)) (by decide +kernel)
theorem lk_X8_78 : Cond.fieldLink RX8 78 (TX8 9).1 (TX8 9).2.1 (TX8 9).2.2.1 ∈ gtbl := gtbl_of (List.mem_of_getElem? (i := 288) (by decide +kernel)) (by decide +kernel)
theorem lk_X8_82 : Cond.fieldLink RX8 82 (TX8 10).1 (TX8 10).2.1 (TX8 10).2.2.1 ∈ gtbl := gtbl_of (List.mem_of_getElem? (i := 289) (by decide +kernel)) (by decide +kernel)
theorem lk_X8_179 : (RX8, 179, (TX6 1).1, (TX6 1).2.1, (TX6 1).2.2.1, "AuditVault") ∈ nestF := by decide +kernel
theorem lk_X8_188 : (RX8, 188, (TX6 5).1, (TX6 5).2.1, (TX6 5).2.2.1, "AuditVault") ∈ nestF := by decide +kernel
theorem lk_X8_202 : (RX8, 202, (TX0 1).1, (TX0 1).2.1, (TX0 1).2.2.1, "AuditVault") ∈ nestF := by decide +kernel
theorem lk_X8_205 : (RX8, 205, (TX0 2).1, (TX0 2).2.1, (TX0 2).2.2.1, "AuditVault") ∈ nestF := by decide +kernel
theorem lk_X8_211 : (RX8, 211, (TX4 4).1, (TX4 4).2.1, (TX4 4).2.2.1, "AuditVault") ∈ nestF := by decide +kernel
theorem lk_X8_221 : (RX8, 221, (TX0 0).1, (TX0 0).2.1, (TX0 0).2.2.1, "AuditVault") ∈ nestF := by decide +kernel
theorem lk_X8_239 : (RX8, 239, (TX5 7).1, (TX5 7).2.1, (TX5 7).2.2.1, "AuditVault") ∈ nestF := by decide +kernel
theorem lk_X8_242 : (RX8, 242, (TX5 8).1, (TX5 8).2.1, (TX5 8).2.2.1, "AuditVault") ∈ nestF := by decide +kernel
theorem lk_X0_9 : Cond.fieldLink RX0 9 (TX0 0).1 (TX0 0).2.1 (TX0 0).2.2.1 ∈ gtbl := gtbl_of (List.mem_of_getElem? (i := 266) (by decide +kernel)) (by decide +kernel)
theorem lk_X0_15 : Cond.fieldLink RX0 15 (TX0 1).1 (TX0 1).2.1 (TX0 1).2.2.1 ∈ gtbl := gtbl_of (List.mem_of_getElem? (i := 268) (by decide +kernel)) (by decide +kernel)
theorem lk_X0_19 : Cond.fieldLink RX0 19 (TX0 2).1 (TX0 2).2.1 (TX0 2).2.2.1 ∈ gtbl := gtbl_of (List.mem_of_getElem? (i := 270) (by decide +kernel)) (by decide +kernel)
theorem lk_X1_11 : Cond.fieldLink RX1 11 (TX1 0).1 (TX1 0).2.1 (TX1 0).2.2.1 ∈ gtbl := gtbl_of (List.mem_of_getElem? (i := 138) (by decide +kernel)) (by decide +kernel)
theorem lk_X1_15 : Cond.fieldLink RX1 15 (TX1 1).1 (TX1 1).2.1 (TX1 1).2.2.1 ∈ gtbl := gtbl_of (List.mem_of_getElem? (i := 139) (by decide +kernel)) (by decide +kernel)
theorem lk_X1_18 : Cond.fieldLink RX1 18 (TX1 2).1 (TX1 2).2.1 (TX1 2).2.2.1 ∈ gtbl := gtbl_of (List.mem_of_getElem? (i := 140) (by decide +kernel)) (by decide +kernel)
theorem lk_X1_21 : Cond.fieldLink RX1 21 (TX1 3).1 (TX1 3).2.1 (TX1 3).2.2.1 ∈ gtbl := gtbl_of (List.mem_of_getElem? (i := 141) (by decide +kernel)) (by decide +kernel)
theorem lk_X1_54 : (RX1, 54, (TX2 0).1, (TX2 0).2.1, (TX2 0).2.2.1, "AuditVault") ∈ nestF := by decide +kernel
theorem lk_X2_9 : Cond.fieldLink RX2 9 (TX2 0).1 (TX2 0).2.1 (TX2 0).2.2.1 ∈ gtbl := gtbl_of (List.mem_of_getElem? (i := 163) (by decide +kernel)) (by decide +kernel)
theorem lk_X3_14 : Cond.fieldLink RX3 14 (TX3 3).1 (TX3 3).2.1 (TX3 3).2.2.1 ∈ gtbl := gtbl_of (List.mem_of_getElem? (i := 244) (by decide +kernel)) (by decide +kernel)
theorem lk_X3_20 : Cond.fieldLink RX3 20 (TX3 4).1 (TX3 4).2.1 (TX3 4).2.2.1 ∈ gtbl := gtbl_of (List.mem_of_getElem? (i := 245) (by decide +kernel)) (by decide +kernel)
theorem lk_X3_24 : Cond.fieldLink RX3 24 (TX3 5).1 (TX3 5).2.1 (TX3 5).2.2.1 ∈ gtbl := gtbl_of (List.mem_of_getElem? (i := 246) (by decide +kernel)) (by decide +kernel)
theorem lk_X3_27 : Cond.fieldLink RX3 27 (TX3 0).1 (TX3 0).2.1 (TX3 0).2.2.1 ∈ gtbl := gtbl_of (List.mem_of_getElem? (i := 241) (by decide +kernel)) (by decide +kernel)
theorem lk_X3_31 : Cond.fieldLink RX3 31 (TX3 1).1 (TX3 1).2.1 (TX3 1).2.2.1 ∈ gtbl := gtbl_of (List.mem_of_getElem? (i := 242) (by decide +kernel)) (by decide +kernel)
theorem lk_X3_35 : Cond.fieldLink RX3 35 (TX3 2).1 (TX3 2).2.1 (TX3 2).2.2.1 ∈ gtbl := gtbl_of (List.mem_of_getElem? (i := 243) (by decide +kernel)) (by decide +kernel)
theorem lk_X3_42 : (RX3, 42, (TX6 5).1, (TX6 5).2.1, (TX6 5).2.2.1, "AuditVault") ∈ nestF := by decide +kernel
theorem lk_X3_68 : (RX3, 68, (TX6 1).1, (TX6 1).2.1, (TX6 1).2.2.1, "AuditVault") ∈ nestF := by decide +kernel
theorem lk_X4_9 : Cond.fieldLink RX4 9 (TX4 2).1 (TX4 2).2.1 (TX4 2).2.2.1 ∈ gtbl := gtbl_of (List.mem_of_getElem? (i := 185) (by decide +kernel)) (by decide +kernel)
theorem lk_X4_20 : Cond.fieldLink RX4 20 (TX4 3).1 (TX4 3).2.1 (TX4 3).2.2.1 ∈ gtbl := gtbl_of (List.mem_of_getElem? (i := 186) (by decide +kernel)) (by decide +kernel)
theorem lk_X4_24 : Cond.fieldLink RX4 24 (TX4 4).1 (TX4 4).2.1 (TX4 4).2.2.1 ∈ gtbl := gtbl_of (List.mem_of_getElem? (i := 187) (by decide +kernel)) (by decide +kernel)
theorem lk_X4_28 : Cond.fieldLink RX4 28 (TX4 0).1 (TX4 0).2.1 (TX4 0).2.2.1 ∈ gtbl := gtbl_of (List.mem_of_getElem? (i := 183) (by decide +kernel)) (by decide +kernel)
theorem lk_X4_32 : Cond.fieldLink RX4 32 (TX4 1).1 (TX4 1).2.1 (TX4 1).2.2.1 ∈ gtbl := gtbl_of (List.mem_of_getElem? (i := 184) (by decide +kernel)) (by decide +kernel)
theorem lk_X5_9 : Cond.fieldLink RX5 9 (TX5 0).1 (TX5 0).2.1 (TX5 0).2.2.1 ∈ gtbl := gtbl_of (List.mem_of_getElem? (i := 100) (by decide +kernel)) (by decide +kernel)
theorem lk_X5_15 : Cond.fieldLink RX5 15 (TX5 1).1 (TX5 1).2.1 (TX5 1).2.2.1 ∈ gtbl := gtbl_of (List.mem_of_getElem? (i := 101) (by decide +kernel)) (by decide +kernel)
theorem lk_X5_18 : Cond.fieldLink RX5 18 (TX5 2).1 (TX5 2).2.1 (TX5 2).2.2.1 ∈ gtbl := gtbl_of (List.mem_of_getElem? (i := 102) (by decide +kernel)) (by decide +kernel)
theorem lk_X5_22 : Cond.fieldLink RX5 22 (TX5 3).1 (TX5 3).2.1 (TX5 3).2.2.1 ∈ gtbl := gtbl_of (List.mem_of_getElem? (i := 103) (by decide +kernel)) (by decide +kernel)
theorem lk_X5_25 : Cond.fieldLink RX5 25 (TX5 4).1 (TX5 4).2.1 (TX5 4).2.2.1 ∈ gtbl := gtbl_of (List.mem_of_getElem? (i := 104) (by decide +kernel)) (by decide +kernel)
theorem lk_X5_28 : Cond.fieldLink RX5 28 (TX5 5).1 (TX5 5).2.1 (TX5 5).2.2.1 ∈ gtbl := gtbl_of (List.mem_of_getElem? (i := 105) (by decide +kernel)) (by decide +kernel)
theorem lk_X5_31 : Cond.fieldLink RX5 31 (TX5 6).1 (TX5 6).2.1 (TX5 6).2.2.1 ∈ gtbl := gtbl_of (List.mem_of_getElem? (i := 106) (by decide +kernel)) (by decide +kernel)
theorem lk_X5_34 : Cond.fieldLink RX5 34 (TX5 7).1 (TX5 7).2.1 (TX5 7).2.2.1 ∈ gtbl := gtbl_of (List.mem_of_getElem? (i := 107) (by decide +kernel)) (by decide +kernel)
theorem lk_X5_38 : Cond.fieldLink RX5 38 (TX5 8).1 (TX5 8).2.1 (TX5 8).2.2.1 ∈ gtbl := gtbl_of (List.mem_of_getElem? (i := 109) (by decide +kernel)) (by decide +kernel)
theorem lk_X6_14 : Cond.fieldLink RX6 14 (TX6 1).1 (TX6 1).2.1 (TX6 1).2.2.1 ∈ gtbl := gtbl_of (List.mem_of_getElem? (i := 209) (by decide +kernel)) (by decide +kernel)
theorem lk_X6_20 : Cond.fieldLink RX6 20 (TX6 2).1 (TX6 2).2.1 (TX6 2).2.2.1 ∈ gtbl := gtbl_of (List.mem_of_getElem? (i := 212) (by decide +kernel)) (by decide +kernel)
theorem lk_X6_24 : Cond.fieldLink RX6 24 (TX6 3).1 (TX6 3).2.1 (TX6 3).2.2.1 ∈ gtbl := gtbl_of (List.mem_of_getElem? (i := 213) (by decide +kernel)) (by decide +kernel)
theorem lk_X6_27 : Cond.fieldLink RX6 27 (TX6 4).1 (TX6 4).2.1 (TX6 4).2.2.1 ∈ gtbl := gtbl_of (List.mem_of_getElem? (i := 214) (by decide +kernel)) (by decide +kernel)
theorem lk_X6_31 : Cond.fieldLink RX6 31 (TX6 5).1 (TX6 5).2.1 (TX6 5).2.2.1 ∈ gtbl := gtbl_of (List.mem_of_getElem? (i := 215) (by decide +kernel)) (by decide +kernel)
theorem lk_X6_34 : Cond.fieldLink RX6 34 (TX6 0).1 (TX6 0).2.1 (TX6 0).2.2.1 ∈ gtbl := gtbl_of (List.mem_of_getElem? (i := 208) (by decide +kernel)) (by decide +kernel)
theorem lk_X7_14 : Cond.fieldLink RX7 14 (TX7 1).1 (TX7 1).2.1 (TX7 1).2.2.1 ∈ gtbl := gtbl_of (List.mem_of_getElem? (i := 169) (by decide +kernel)) (by decide +kernel)
theorem lk_X7_20 : Cond.fieldLink RX7 20 (TX7 0).1 (TX7 0).2.1 (TX7 0).2.2.1 ∈ gtbl := gtbl_of (List.mem_of_getElem? (i := 168) (by decide +kernel)) (by decide +kernel)
theorem lk_X9_7 : Cond.fieldLink RX9 7 (TX9 0).1 (TX9 0).2.1 (TX9 0).2.2.1 ∈ gtbl := gtbl_of (List.mem_of_getElem? (i := 801) (by decide +kernel)) (by decide +kernel)
theorem lk_X9_13 : Cond.fieldLink RX9 13 (TX9 1).1 (TX9 1).2.1 (TX9 1).2.2.1 ∈ gtbl := gtbl_of (List.mem_of_getElem? (i := 802) (by decide +kernel)) (by decide +kernel)
theorem lk_X9_16 : Cond.fieldLink RX9 16 (TX9 2).1 (TX9 2).2.1 (TX9 2).2.2.1 ∈ gtbl := gtbl_of (List.mem_of_getElem? (i := 803) (by decide +kernel)) (by decide +kernel)
theorem lk_X9_19 : Cond.fieldLink RX9 19 (TX9 3).1 (TX9 3).2.1 (TX9 3).2.2.1 ∈ gtbl := gtbl_of (List.mem_of_getElem? (i := 804) (by decide +kernel)) (by decide +kernel)
theorem lk_X9_22 : Cond.fieldLink RX9 22 (TX9 5).1 (TX9 5).2.1 (TX9 5).2.2.1 ∈ gtbl := gtbl_of (List.mem_of_getElem? (i := 806) (by decide +kernel)) (by decide +kernel)
theorem lk_X9_25 : Cond.fieldLink RX9 25 (TX9 7).1 (TX9 7).2.1 (TX9 7).2.2.1 ∈ gtbl := gtbl_of (List.mem_of_getElem? (i := 808) (by decide +kernel)) (by decide +kernel)
theorem lk_X9_28 : Cond.fieldLink RX9 28 (TX9 8).1 (TX9 8).2.1 (TX9 8).2.2.1 ∈ gtbl := gtbl_of (List.mem_of_getElem? (i := 809) (by decide +kernel)) (by decide +kernel)
theorem lk_X9_31 : Cond.fieldLink RX9 31 (TX9 9).1 (TX9 9).2.1 (TX9 9).2.2.1 ∈ gtbl := gtbl_of (List.mem_of_getElem? (i := 810) (by decide +kernel)) (by decide +kernel)
theorem lk_X9_35 : Cond.fieldLink RX9 35 (TX9 10).1 (TX9 10).2.1 (TX9 10).2.2.1 ∈ gtbl := gtbl_of (List.mem_of_getElem? (i := 811) (by decide +kernel)) (by decide +kernel)
theorem lk_X9_38 : Cond.fieldLink RX9 38 (TX9 11).1 (TX9 11).2.1 (TX9 11).2.2.1 ∈ gtbl := gtbl_of (List.mem_of_getElem? (i := 812) (by decide +kernel)) (by decide +kernel)
theorem lk_X9_41 : Cond.fieldLink RX9 41 (TX9 12).1 (TX9 12).2.1 (TX9 12).2.2.1 ∈ gtbl := gtbl_of (List.mem_of_getElem? (i := 813) (by decide +kernel)) (by decide +kernel)
theorem lk_X9_44 : Cond.fieldLink RX9 44 (TX9 13).1 (TX9 13).2.1 (TX9 13).2.2.1 ∈ gtbl := gtbl_of (List.mem_of_getElem? (i := 814) (by decide +kernel)) (by decide +kernel)
theorem lk_X9_47 : Cond.fieldLink RX9 47 (TX9 18).1 (TX9 18).2.1 (TX9 18).2.2.1 ∈ gtbl := gtbl_of (List.mem_of_getElem? (i := 819) (by decide +kernel)) (by decide +kernel)
theorem lk_X9_50 : Cond.fieldLink RX9 50 (TX9 19).1 (TX9 19).2.1 (TX9 19).2.2.1 ∈ gtbl := gtbl_of (List.mem_of_getElem? (i := 820) (by decide +kernel)) (by decide +kernel)
theorem lk_X9_53 : Cond.fieldLink RX9 53 (TX9 22).1 (TX9 22).2.1 (TX9 22).2.2.1 ∈ gtbl := gtbl_of (List.mem_of_getElem? (i := 823) (by decide +kernel)) (by decide +kernel)
theorem lk_X9_56 : Cond.fieldLink RX9 56 (TX9 23).1 (TX9 23).2.1 (TX9 23).2.2.1 ∈ gtbl := gtbl_of (List.mem_of_getElem? (i := 824) (by decide +kernel)) (by decide +kernel)
theorem lk_X9_59 : Cond.fieldLink RX9 59 (TX9 24).1 (TX9 24).2.1 (TX9 24).2.2.1 ∈ gtbl := gtbl_of (List.mem_of_getElem? (i := 825) (by decide +kernel)) (by decide +kernel)
theorem lk_X9_62 : Cond.fieldLink RX9 62 (TX9 25).1 (TX9 25).2.1 (TX9 25).2.2.1 ∈ gtbl := gtbl_of (List.mem_of_getElem? (i := 826) (by decide +kernel)) (by decide +kernel)
theorem lk_X9_65 : Cond.fieldLink RX9 65 (TX9 27).1 (TX9 27).2.1 (TX9 27).2.2.1 ∈ gtbl := gtbl_of (List.mem_of_getElem? (i := 828) (by decide +kernel)) (by decide +kernel)
theorem lk_X9_68 : Cond.fieldLink RX9 68 (TX9 28).1 (TX9 28).2.1 (TX9 28).2.2.1 ∈ gtbl := gtbl_of (List.mem_of_getElem? (i := 829) (by decide +kernel)) (by decide +kernel)
theorem lk_X9_71 : Cond.fieldLink RX9 71 (TX9 29).1 (TX9 29).2.1 (TX9 29).2.2.1 ∈ gtbl := gtbl_of (List.mem_of_getElem? (i := 830) (by decide +kernel)) (by decide +kernel)
theorem lk_X9_74 : Cond.fieldLink RX9 74 (TX9 30).1 (TX9 30).2.1 (TX9 30).2.2.1 ∈ gtbl := gtbl_of (List.mem_of_getElem? (i := 831) (by decide +kernel)) (by decide +kernel)
theorem lk_X9_77 : Cond.fieldLink RX9 77 (TX9 31).1 (TX9 31).2.1 (TX9 31).2.2.1 ∈ gtbl := gtbl_of (List.mem_of_getElem? (i := 832) (by decide +kernel)) (by decide +kernel)
theorem lk_X9_80 : Cond.fieldLink RX9 80 (TX9 32).1 (TX9 32).2.1 (TX9 32).2.2.1 ∈ gtbl := gtbl_of (List.mem_of_getElem? (i := 833) (by decide +kernel)) (by decide +kernel)
theorem lk_X9_83 : Cond.fieldLink RX9 83 (TX9 33).1 (TX9 33).2.1 (TX9 33).2.2.1 ∈ gtbl := gtbl_of (List.mem_of_getElem? (i := 834) (by decide +kernel)) (by decide +kernel)
theorem lk_X9_150 : Cond.fieldLink RX9 150 (TX9 4).1 (TX9 4).2.1 (TX9 4).2.2.1 ∈ gtbl := gtbl_of (List.mem_of_getElem? (i := 805) (by decide +kernel)) (by decide +kernel)
theorem lk_X9_201 : Cond.fieldLink RX9 201 (TX9 6).1 (TX9 6).2.1 (TX9 6).2.2.1 ∈ gtbl := gtbl_of (List.mem_of_getElem? (i := 807) (by decide +kernel)) (by decide +kernel)
theorem lk_X9_206 : Cond.fieldLink RX9 206 (TX9 17).1 (TX9 17).2.1 (TX9 17).2.2.1 ∈ gtbl := gtbl_of (List.mem_of_getElem? (i := 818) (by decide +kernel)) (by decide +kernel)
theorem lk_X9_210 : Cond.fieldLink RX9 210 (TX9 16).1 (TX9 16).2.1 (TX9 16).2.2.1 ∈ gtbl := gtbl_of (List.mem_of_getElem? (i := 817) (by decide +kernel)) (by decide +kernel)
theorem lk_X9_220 : Cond.fieldLink RX9 220 (TX9 20).1 (TX9 20).2.1 (TX9 20).2.2.1 ∈ gtbl := gtbl_of (List.mem_of_getElem? (i := 821) (by decide +kernel)) (by decide +kernel)
theorem lk_X9_243 : Cond.fieldLink RX9 243 (TX9 14).1 (TX9 14).2.1 (TX9 14).2.2.1 ∈ gtbl := gtbl_of (List.mem_of_getElem? (i := 815) (by decide +kernel)) (by decide +kernel)
theorem lk_X9_246 : Cond.fieldLink RX9 246 (TX9 15).1 (TX9 15).2.1 (TX9 15).2.2.1 ∈ gtbl := gtbl_of (List.mem_of_getElem? (i := 816) (by decide +kernel)) (by decide +kernel)
theorem lk_X9_281 : Cond.fieldLink RX9 281 (TX9 26).1 (TX9 26).2.1 (TX9 26).2.2.1 ∈ gtbl := gtbl_of (List.mem_of_getElem? (i := 827) (by decide +kernel)) (by decide +kernel)
theorem lk_X9_299 : Cond.fieldLink RX9 299 (TX9 21).1 (TX9 21).2.1 (TX9 21).2.2.1 ∈ gtbl := gtbl_of (List.mem_of_getElem? (i := 822) (by decide +kernel)) (by decide +kernel)
theorem lk_X8_11 : (RX8, 11, yX5_init, "AuditVault") ∈ nestM := by decide +kernel
theorem lk_X8_18 : (RX8, 18, yX1_init, "AuditVault") ∈ nestM := by decide +kernel
theorem lk_X8_25 : (RX8, 25, yX7_init, "AuditVault") ∈ nestM := by decide +kernel
theorem lk_X8_34 : (RX8, 34, yX4_init, "AuditVault") ∈ nestM := by decide +kernel
theorem lk_X8_43 : (RX8, 43, yX6_init, "AuditVault") ∈ nestM := by decide +kernel
theorem lk_X8_52 : (RX8, 52, yX2_init, "AuditVault") ∈ nestM := by decide +kernel
theorem lk_X8_61 : (RX8, 61, yX3_init, "AuditVault") ∈ nestM := by decide +kernel
theorem lk_X8_70 : (RX8, 70, yX0_init, "AuditVault") ∈ nestM := by decide +kernel
theorem lk_X8_87 : Cond.methodLink RX8 87 yX8_within ∈ gtbl := gtbl_of (List.mem_of_getElem? (i := 318) (by decide +kernel)) (by decide +kernel)
theorem cal_X8_within {d : Nat} : Cal yX8_within cX8_within 3 (some .boolean) (rmD d) 3 := ⟨gtbl_of (List.mem_of_getElem? (i := 320) (by decide +kernel)) (by decide +kernel), gtbl_of (List.mem_of_getElem? (i := 75) (by decide +kernel)) (by decide +kernel), by decide +kernel, rfl, rfl⟩
theorem st_X8_within : Cond.static yX8_within ∈ gtbl := gtbl_of (List.mem_of_getElem? (i := 319) (by decide +kernel)) (by decide +kernel)
theorem lk_X8_92 : Cond.methodLink RX8 92 yX8_isSubject ∈ gtbl := gtbl_of (List.mem_of_getElem? (i := 326) (by decide +kernel)) (by decide +kernel)
theorem cal_X8_isSubject {d : Nat} : Cal yX8_isSubject cX8_isSubject 1 (some .boolean) (rmD d) 1 := ⟨gtbl_of (List.mem_of_getElem? (i := 328) (by decide +kernel)) (by decide +kernel), gtbl_of (List.mem_of_getElem? (i := 75) (by decide +kernel)) (by decide +kernel), by decide +kernel, rfl, rfl⟩
theorem st_X8_isSubject : Cond.static yX8_isSubject ∈ gtbl := gtbl_of (List.mem_of_getElem? (i := 327) (by decide +kernel)) (by decide +kernel)
theorem lk_X8_96 : Cond.methodLink RX8 96 yX8_isObject ∈ gtbl := gtbl_of (List.mem_of_getElem? (i := 329) (by decide +kernel)) (by decide +kernel)
theorem cal_X8_isObject {d : Nat} : Cal yX8_isObject cX8_isObject 1 (some .boolean) (rmD d) 1 := ⟨gtbl_of (List.mem_of_getElem? (i := 331) (by decide +kernel)) (by decide +kernel), gtbl_of (List.mem_of_getElem? (i := 75) (by decide +kernel)) (by decide +kernel), by decide +kernel, rfl, rfl⟩
theorem st_X8_isObject : Cond.static yX8_isObject ∈ gtbl := gtbl_of (List.mem_of_getElem? (i := 330) (by decide +kernel)) (by decide +kernel)
theorem lk_X8_99 : Cond.methodLink RX8 99 yX8_isRight ∈ gtbl := gtbl_of (List.mem_of_getElem? (i := 332) (by decide +kernel)) (by decide +kernel)
theorem cal_X8_isRight {d : Nat} : Cal yX8_isRight cX8_isRight 1 (some .boolean) (rmD d) 1 := ⟨gtbl_of (List.mem_of_getElem? (i := 334) (by decide +kernel)) (by decide +kernel), gtbl_of (List.mem_of_getElem? (i := 75) (by decide +kernel)) (by decide +kernel), by decide +kernel, rfl, rfl⟩
theorem st_X8_isRight : Cond.static yX8_isRight ∈ gtbl := gtbl_of (List.mem_of_getElem? (i := 333) (by decide +kernel)) (by decide +kernel)
theorem lk_X8_102 : Cond.methodLink RX8 102 yX8_refusal ∈ gtbl := gtbl_of (List.mem_of_getElem? (i := 335) (by decide +kernel)) (by decide +kernel)
theorem cal_X8_refusal {d : Nat} : Cal yX8_refusal cX8_refusal 1 (some .int) (rmD d) 0 := ⟨gtbl_of (List.mem_of_getElem? (i := 338) (by decide +kernel)) (by decide +kernel), gtbl_of (List.mem_of_getElem? (i := 75) (by decide +kernel)) (by decide +kernel), by decide +kernel, rfl, rfl⟩
theorem im_X8_refusal : Cond.instanceMethod yX8_refusal ∈ gtbl := gtbl_of (List.mem_of_getElem? (i := 337) (by decide +kernel)) (by decide +kernel)
theorem se_X8_refusal : Cond.selects RX8 yX8_refusal yX8_refusal ∈ gtbl := gtbl_of (by decide +kernel) (by decide +kernel)
theorem lk_X8_106 : (RX8, 106, yX5_causeOf, "AuditVault") ∈ nestM := by decide +kernel
theorem cal_X5_causeOf {d : Nat} : Cal yX5_causeOf cX5_causeOf 6 (some .int) (rmD d) 3 := ⟨gtbl_of (List.mem_of_getElem? (i := 342) (by decide +kernel)) (by decide +kernel), gtbl_of (List.mem_of_getElem? (i := 76) (by decide +kernel)) (by decide +kernel), by decide +kernel, rfl, rfl⟩
theorem im_X5_causeOf : Cond.instanceMethod yX5_causeOf ∈ gtbl := gtbl_of (List.mem_of_getElem? (i := 341) (by decide +kernel)) (by decide +kernel)
theorem se_X5_causeOf : Cond.selects RX5 yX5_causeOf yX5_causeOf ∈ gtbl := gtbl_of (by decide +kernel) (by decide +kernel)
theorem lk_X8_110 : (RX8, 110, yX5_tally, "AuditVault") ∈ nestM := by decide +kernel
theorem cal_X5_tally {d : Nat} : Cal yX5_tally cX5_tally 3 none (rmD d) 2 := ⟨gtbl_of (List.mem_of_getElem? (i := 357) (by decide +kernel)) (by decide +kernel), gtbl_of (List.mem_of_getElem? (i := 76) (by decide +kernel)) (by decide +kernel), by decide +kernel, rfl, rfl⟩
theorem im_X5_tally : Cond.instanceMethod yX5_tally ∈ gtbl := gtbl_of (List.mem_of_getElem? (i := 356) (by decide +kernel)) (by decide +kernel)
theorem se_X5_tally : Cond.selects RX5 yX5_tally yX5_tally ∈ gtbl := gtbl_of (by decide +kernel) (by decide +kernel)
theorem lk_X8_114 : Cond.methodLink RX8 114 yX8_writeEntry ∈ gtbl := gtbl_of (List.mem_of_getElem? (i := 358) (by decide +kernel)) (by decide +kernel)
theorem cal_X8_writeEntry {d : Nat} : Cal yX8_writeEntry cX8_writeEntry 6 none (rmD d) 5 := ⟨gtbl_of (List.mem_of_getElem? (i := 361) (by decide +kernel)) (by decide +kernel), gtbl_of (List.mem_of_getElem? (i := 75) (by decide +kernel)) (by decide +kernel), by decide +kernel, rfl, rfl⟩
theorem im_X8_writeEntry : Cond.instanceMethod yX8_writeEntry ∈ gtbl := gtbl_of (List.mem_of_getElem? (i := 360) (by decide +kernel)) (by decide +kernel)
theorem se_X8_writeEntry : Cond.selects RX8 yX8_writeEntry yX8_writeEntry ∈ gtbl := gtbl_of (by decide +kernel) (by decide +kernel)
theorem lk_X8_118 : Cond.methodLink RX8 118 yX8_setGiven ∈ gtbl := gtbl_of (List.mem_of_getElem? (i := 453) (by decide +kernel)) (by decide +kernel)
theorem cal_X8_setGiven {d : Nat} : Cal yX8_setGiven cX8_setGiven 7 (some .int) (rmD d) 4 := ⟨gtbl_of (List.mem_of_getElem? (i := 456) (by decide +kernel)) (by decide +kernel), gtbl_of (List.mem_of_getElem? (i := 75) (by decide +kernel)) (by decide +kernel), by decide +kernel, rfl, rfl⟩
theorem im_X8_setGiven : Cond.instanceMethod yX8_setGiven ∈ gtbl := gtbl_of (List.mem_of_getElem? (i := 455) (by decide +kernel)) (by decide +kernel)
theorem se_X8_setGiven : Cond.selects RX8 yX8_setGiven yX8_setGiven ∈ gtbl := gtbl_of (by decide +kernel) (by decide +kernel)
theorem lk_X8_122 : Cond.methodLink RX8 122 yX8_isLevel ∈ gtbl := gtbl_of (List.mem_of_getElem? (i := 473) (by decide +kernel)) (by decide +kernel)
theorem cal_X8_isLevel {d : Nat} : Cal yX8_isLevel cX8_isLevel 1 (some .boolean) (rmD d) 1 := ⟨gtbl_of (List.mem_of_getElem? (i := 475) (by decide +kernel)) (by decide +kernel), gtbl_of (List.mem_of_getElem? (i := 75) (by decide +kernel)) (by decide +kernel), by decide +kernel, rfl, rfl⟩
theorem st_X8_isLevel : Cond.static yX8_isLevel ∈ gtbl := gtbl_of (List.mem_of_getElem? (i := 474) (by decide +kernel)) (by decide +kernel)
theorem lk_X8_125 : (RX8, 125, yX5_placeSubject, "AuditVault") ∈ nestM := by decide +kernel
theorem cal_X5_placeSubject {d : Nat} : Cal yX5_placeSubject cX5_placeSubject 4 none (rmD d) 3 := ⟨gtbl_of (List.mem_of_getElem? (i := 479) (by decide +kernel)) (by decide +kernel), gtbl_of (List.mem_of_getElem? (i := 76) (by decide +kernel)) (by decide +kernel), by decide +kernel, rfl, rfl⟩
theorem im_X5_placeSubject : Cond.instanceMethod yX5_placeSubject ∈ gtbl := gtbl_of (List.mem_of_getElem? (i := 478) (by decide +kernel)) (by decide +kernel)
theorem se_X5_placeSubject : Cond.selects RX5 yX5_placeSubject yX5_placeSubject ∈ gtbl := gtbl_of (by decide +kernel) (by decide +kernel)
theorem lk_X8_129 : (RX8, 129, yX5_placeObject, "AuditVault") ∈ nestM := by decide +kernel
theorem cal_X5_placeObject {d : Nat} : Cal yX5_placeObject cX5_placeObject 4 none (rmD d) 3 := ⟨gtbl_of (List.mem_of_getElem? (i := 487) (by decide +kernel)) (by decide +kernel), gtbl_of (List.mem_of_getElem? (i := 76) (by decide +kernel)) (by decide +kernel), by decide +kernel, rfl, rfl⟩
theorem im_X5_placeObject : Cond.instanceMethod yX5_placeObject ∈ gtbl := gtbl_of (List.mem_of_getElem? (i := 486) (by decide +kernel)) (by decide +kernel)
theorem se_X5_placeObject : Cond.selects RX5 yX5_placeObject yX5_placeObject ∈ gtbl := gtbl_of (by decide +kernel) (by decide +kernel)
theorem lk_X8_132 : (RX8, 132, yX5_release, "AuditVault") ∈ nestM := by decide +kernel
theorem cal_X5_release {d : Nat} : Cal yX5_release cX5_release 3 (some .boolean) (rmD d) 1 := ⟨gtbl_of (List.mem_of_getElem? (i := 495) (by decide +kernel)) (by decide +kernel), gtbl_of (List.mem_of_getElem? (i := 76) (by decide +kernel)) (by decide +kernel), by decide +kernel, rfl, rfl⟩
theorem im_X5_release : Cond.instanceMethod yX5_release ∈ gtbl := gtbl_of (List.mem_of_getElem? (i := 494) (by decide +kernel)) (by decide +kernel)
theorem se_X5_release : Cond.selects RX5 yX5_release yX5_release ∈ gtbl := gtbl_of (by decide +kernel) (by decide +kernel)
theorem lk_X8_135 : (RX8, 135, yX5_ofSubject, "AuditVault") ∈ nestM := by decide +kernel
theorem cal_X5_ofSubject {d : Nat} : Cal yX5_ofSubject cX5_ofSubject 3 (some .int) (rmD d) 2 := ⟨gtbl_of (List.mem_of_getElem? (i := 503) (by decide +kernel)) (by decide +kernel), gtbl_of (List.mem_of_getElem? (i := 76) (by decide +kernel)) (by decide +kernel), by decide +kernel, rfl, rfl⟩
theorem im_X5_ofSubject : Cond.instanceMethod yX5_ofSubject ∈ gtbl := gtbl_of (List.mem_of_getElem? (i := 502) (by decide +kernel)) (by decide +kernel)
theorem se_X5_ofSubject : Cond.selects RX5 yX5_ofSubject yX5_ofSubject ∈ gtbl := gtbl_of (by decide +kernel) (by decide +kernel)
theorem lk_X8_139 : (RX8, 139, yX5_ofObject, "AuditVault") ∈ nestM := by decide +kernel
theorem cal_X5_ofObject {d : Nat} : Cal yX5_ofObject cX5_ofObject 3 (some .int) (rmD d) 2 := ⟨gtbl_of (List.mem_of_getElem? (i := 511) (by decide +kernel)) (by decide +kernel), gtbl_of (List.mem_of_getElem? (i := 76) (by decide +kernel)) (by decide +kernel), by decide +kernel, rfl, rfl⟩
theorem im_X5_ofObject : Cond.instanceMethod yX5_ofObject ∈ gtbl := gtbl_of (List.mem_of_getElem? (i := 510) (by decide +kernel)) (by decide +kernel)
theorem se_X5_ofObject : Cond.selects RX5 yX5_ofObject yX5_ofObject ∈ gtbl := gtbl_of (by decide +kernel) (by decide +kernel)
theorem lk_X8_142 : Cond.methodLink RX8 142 yX8_isParty ∈ gtbl := gtbl_of (List.mem_of_getElem? (i := 457) (by decide +kernel)) (by decide +kernel)
theorem cal_X8_isParty {d : Nat} : Cal yX8_isParty cX8_isParty 1 (some .boolean) (rmD d) 1 := ⟨gtbl_of (List.mem_of_getElem? (i := 459) (by decide +kernel)) (by decide +kernel), gtbl_of (List.mem_of_getElem? (i := 75) (by decide +kernel)) (by decide +kernel), by decide +kernel, rfl, rfl⟩
theorem st_X8_isParty : Cond.static yX8_isParty ∈ gtbl := gtbl_of (List.mem_of_getElem? (i := 458) (by decide +kernel)) (by decide +kernel)
theorem lk_X8_145 : (RX8, 145, yX5_hasBeenGiven, "AuditVault") ∈ nestM := by decide +kernel
theorem cal_X5_hasBeenGiven {d : Nat} : Cal yX5_hasBeenGiven cX5_hasBeenGiven 4 (some .boolean) (rmD d) 3 := ⟨gtbl_of (List.mem_of_getElem? (i := 350) (by decide +kernel)) (by decide +kernel), gtbl_of (List.mem_of_getElem? (i := 76) (by decide +kernel)) (by decide +kernel), by decide +kernel, rfl, rfl⟩
theorem im_X5_hasBeenGiven : Cond.instanceMethod yX5_hasBeenGiven ∈ gtbl := gtbl_of (List.mem_of_getElem? (i := 349) (by decide +kernel)) (by decide +kernel)
theorem se_X5_hasBeenGiven : Cond.selects RX5 yX5_hasBeenGiven yX5_hasBeenGiven ∈ gtbl := gtbl_of (by decide +kernel) (by decide +kernel)
theorem lk_X8_148 : Cond.methodLink RX8 148 yX8_isEntry ∈ gtbl := gtbl_of (List.mem_of_getElem? (i := 520) (by decide +kernel)) (by decide +kernel)
theorem cal_X8_isEntry {d : Nat} : Cal yX8_isEntry cX8_isEntry 2 (some .boolean) (rmD d) 1 := ⟨gtbl_of (List.mem_of_getElem? (i := 523) (by decide +kernel)) (by decide +kernel), gtbl_of (List.mem_of_getElem? (i := 75) (by decide +kernel)) (by decide +kernel), by decide +kernel, rfl, rfl⟩
theorem im_X8_isEntry : Cond.instanceMethod yX8_isEntry ∈ gtbl := gtbl_of (List.mem_of_getElem? (i := 522) (by decide +kernel)) (by decide +kernel)
theorem se_X8_isEntry : Cond.selects RX8 yX8_isEntry yX8_isEntry ∈ gtbl := gtbl_of (by decide +kernel) (by decide +kernel)
theorem lk_X8_151 : (RX8, 151, yX4_entryByte, "AuditVault") ∈ nestM := by decide +kernel
theorem cal_X4_entryByte {d : Nat} : Cal yX4_entryByte cX4_entryByte 3 (some .int) (rmD d) 2 := ⟨gtbl_of (List.mem_of_getElem? (i := 397) (by decide +kernel)) (by decide +kernel), gtbl_of (List.mem_of_getElem? (i := 80) (by decide +kernel)) (by decide +kernel), by decide +kernel, rfl, rfl⟩
theorem im_X4_entryByte : Cond.instanceMethod yX4_entryByte ∈ gtbl := gtbl_of (List.mem_of_getElem? (i := 396) (by decide +kernel)) (by decide +kernel)
theorem se_X4_entryByte : Cond.selects RX4 yX4_entryByte yX4_entryByte ∈ gtbl := gtbl_of (by decide +kernel) (by decide +kernel)
theorem lk_X8_154 : Cond.methodLink RX8 154 yX8_isLength ∈ gtbl := gtbl_of (List.mem_of_getElem? (i := 529) (by decide +kernel)) (by decide +kernel)
theorem cal_X8_isLength {d : Nat} : Cal yX8_isLength cX8_isLength 2 (some .boolean) (rmD d) 1 := ⟨gtbl_of (List.mem_of_getElem? (i := 532) (by decide +kernel)) (by decide +kernel), gtbl_of (List.mem_of_getElem? (i := 75) (by decide +kernel)) (by decide +kernel), by decide +kernel, rfl, rfl⟩
theorem im_X8_isLength : Cond.instanceMethod yX8_isLength ∈ gtbl := gtbl_of (List.mem_of_getElem? (i := 531) (by decide +kernel)) (by decide +kernel)
theorem se_X8_isLength : Cond.selects RX8 yX8_isLength yX8_isLength ∈ gtbl := gtbl_of (by decide +kernel) (by decide +kernel)
theorem lk_X8_157 : Cond.methodLink RX8 157 yX8_isHashByte ∈ gtbl := gtbl_of (List.mem_of_getElem? (i := 533) (by decide +kernel)) (by decide +kernel)
theorem cal_X8_isHashByte {d : Nat} : Cal yX8_isHashByte cX8_isHashByte 1 (some .boolean) (rmD d) 1 := ⟨gtbl_of (List.mem_of_getElem? (i := 535) (by decide +kernel)) (by decide +kernel), gtbl_of (List.mem_of_getElem? (i := 75) (by decide +kernel)) (by decide +kernel), by decide +kernel, rfl, rfl⟩
theorem st_X8_isHashByte : Cond.static yX8_isHashByte ∈ gtbl := gtbl_of (List.mem_of_getElem? (i := 534) (by decide +kernel)) (by decide +kernel)
theorem lk_X8_160 : (RX8, 160, yX4_linkByte, "AuditVault") ∈ nestM := by decide +kernel
theorem cal_X4_linkByte {d : Nat} : Cal yX4_linkByte cX4_linkByte 3 (some .int) (rmD d) 2 := ⟨gtbl_of (List.mem_of_getElem? (i := 447) (by decide +kernel)) (by decide +kernel), gtbl_of (List.mem_of_getElem? (i := 80) (by decide +kernel)) (by decide +kernel), by decide +kernel, rfl, rfl⟩
theorem im_X4_linkByte : Cond.instanceMethod yX4_linkByte ∈ gtbl := gtbl_of (List.mem_of_getElem? (i := 446) (by decide +kernel)) (by decide +kernel)
theorem se_X4_linkByte : Cond.selects RX4 yX4_linkByte yX4_linkByte ∈ gtbl := gtbl_of (by decide +kernel) (by decide +kernel)
theorem lk_X8_163 : (RX8, 163, yX7_rootOf, "AuditVault") ∈ nestM := by decide +kernel
theorem cal_X7_rootOf {d : Nat} : Cal yX7_rootOf cX7_rootOf 10 none (rmD d) 4 := ⟨gtbl_of (List.mem_of_getElem? (i := 544) (by decide +kernel)) (by decide +kernel), gtbl_of (List.mem_of_getElem? (i := 78) (by decide +kernel)) (by decide +kernel), by decide +kernel, rfl, rfl⟩
theorem im_X7_rootOf : Cond.instanceMethod yX7_rootOf ∈ gtbl := gtbl_of (List.mem_of_getElem? (i := 543) (by decide +kernel)) (by decide +kernel)
theorem se_X7_rootOf : Cond.selects RX7 yX7_rootOf yX7_rootOf ∈ gtbl := gtbl_of (by decide +kernel) (by decide +kernel)
theorem lk_X8_167 : (RX8, 167, yX2_byteAt, "AuditVault") ∈ nestM := by decide +kernel
theorem cal_X2_byteAt {d : Nat} : Cal yX2_byteAt cX2_byteAt 3 (some .int) (rmD d) 2 := ⟨gtbl_of (List.mem_of_getElem? (i := 389) (by decide +kernel)) (by decide +kernel), gtbl_of (List.mem_of_getElem? (i := 79) (by decide +kernel)) (by decide +kernel), by decide +kernel, rfl, rfl⟩
theorem im_X2_byteAt : Cond.instanceMethod yX2_byteAt ∈ gtbl := gtbl_of (List.mem_of_getElem? (i := 388) (by decide +kernel)) (by decide +kernel)
theorem se_X2_byteAt : Cond.selects RX2 yX2_byteAt yX2_byteAt ∈ gtbl := gtbl_of (by decide +kernel) (by decide +kernel)
theorem lk_X8_170 : (RX8, 170, yX6_becomePath, "AuditVault") ∈ nestM := by decide +kernel
theorem cal_X6_becomePath {d : Nat} : Cal yX6_becomePath cX6_becomePath 7 (some .int) (rmD d) 2 := ⟨gtbl_of (List.mem_of_getElem? (i := 557) (by decide +kernel)) (by decide +kernel), gtbl_of (List.mem_of_getElem? (i := 81) (by decide +kernel)) (by decide +kernel), by decide +kernel, rfl, rfl⟩
theorem im_X6_becomePath : Cond.instanceMethod yX6_becomePath ∈ gtbl := gtbl_of (List.mem_of_getElem? (i := 556) (by decide +kernel)) (by decide +kernel)
theorem se_X6_becomePath : Cond.selects RX6 yX6_becomePath yX6_becomePath ∈ gtbl := gtbl_of (by decide +kernel) (by decide +kernel)
theorem lk_X8_173 : (RX8, 173, yX6_becomeSteps, "AuditVault") ∈ nestM := by decide +kernel
theorem cal_X6_becomeSteps {d : Nat} : Cal yX6_becomeSteps cX6_becomeSteps 7 (some .int) (rmD d) 2 := ⟨gtbl_of (List.mem_of_getElem? (i := 577) (by decide +kernel)) (by decide +kernel), gtbl_of (List.mem_of_getElem? (i := 81) (by decide +kernel)) (by decide +kernel), by decide +kernel, rfl, rfl⟩
theorem im_X6_becomeSteps : Cond.instanceMethod yX6_becomeSteps ∈ gtbl := gtbl_of (List.mem_of_getElem? (i := 576) (by decide +kernel)) (by decide +kernel)
theorem se_X6_becomeSteps : Cond.selects RX6 yX6_becomeSteps yX6_becomeSteps ∈ gtbl := gtbl_of (by decide +kernel) (by decide +kernel)
theorem lk_X8_176 : Cond.methodLink RX8 176 yX8_isProofHash ∈ gtbl := gtbl_of (List.mem_of_getElem? (i := 582) (by decide +kernel)) (by decide +kernel)
theorem cal_X8_isProofHash {d : Nat} : Cal yX8_isProofHash cX8_isProofHash 2 (some .boolean) (rmD d) 1 := ⟨gtbl_of (List.mem_of_getElem? (i := 585) (by decide +kernel)) (by decide +kernel), gtbl_of (List.mem_of_getElem? (i := 75) (by decide +kernel)) (by decide +kernel), by decide +kernel, rfl, rfl⟩
theorem im_X8_isProofHash : Cond.instanceMethod yX8_isProofHash ∈ gtbl := gtbl_of (List.mem_of_getElem? (i := 584) (by decide +kernel)) (by decide +kernel)
theorem se_X8_isProofHash : Cond.selects RX8 yX8_isProofHash yX8_isProofHash ∈ gtbl := gtbl_of (by decide +kernel) (by decide +kernel)
theorem lk_X8_182 : Cond.methodLink RX8 182 yX8_isMask ∈ gtbl := gtbl_of (List.mem_of_getElem? (i := 590) (by decide +kernel)) (by decide +kernel)
theorem cal_X8_isMask {d : Nat} : Cal yX8_isMask cX8_isMask 1 (some .boolean) (rmD d) 1 := ⟨gtbl_of (List.mem_of_getElem? (i := 592) (by decide +kernel)) (by decide +kernel), gtbl_of (List.mem_of_getElem? (i := 75) (by decide +kernel)) (by decide +kernel), by decide +kernel, rfl, rfl⟩
theorem st_X8_isMask : Cond.static yX8_isMask ∈ gtbl := gtbl_of (List.mem_of_getElem? (i := 591) (by decide +kernel)) (by decide +kernel)
theorem lk_X8_185 : (RX8, 185, yX2_spoilByte, "AuditVault") ∈ nestM := by decide +kernel
theorem cal_X2_spoilByte {d : Nat} : Cal yX2_spoilByte cX2_spoilByte 5 (some .int) (rmD d) 3 := ⟨gtbl_of (List.mem_of_getElem? (i := 596) (by decide +kernel)) (by decide +kernel), gtbl_of (List.mem_of_getElem? (i := 79) (by decide +kernel)) (by decide +kernel), by decide +kernel, rfl, rfl⟩
theorem im_X2_spoilByte : Cond.instanceMethod yX2_spoilByte ∈ gtbl := gtbl_of (List.mem_of_getElem? (i := 595) (by decide +kernel)) (by decide +kernel)
theorem se_X2_spoilByte : Cond.selects RX2 yX2_spoilByte yX2_spoilByte ∈ gtbl := gtbl_of (by decide +kernel) (by decide +kernel)
theorem lk_X8_191 : Cond.methodLink RX8 191 yX8_isKeptRoot ∈ gtbl := gtbl_of (List.mem_of_getElem? (i := 606) (by decide +kernel)) (by decide +kernel)
theorem cal_X8_isKeptRoot {d : Nat} : Cal yX8_isKeptRoot cX8_isKeptRoot 1 (some .boolean) (rmD d) 1 := ⟨gtbl_of (List.mem_of_getElem? (i := 608) (by decide +kernel)) (by decide +kernel), gtbl_of (List.mem_of_getElem? (i := 75) (by decide +kernel)) (by decide +kernel), by decide +kernel, rfl, rfl⟩
theorem st_X8_isKeptRoot : Cond.static yX8_isKeptRoot ∈ gtbl := gtbl_of (List.mem_of_getElem? (i := 607) (by decide +kernel)) (by decide +kernel)
theorem lk_X8_194 : (RX8, 194, yX3_pathIsRight, "AuditVault") ∈ nestM := by decide +kernel
theorem cal_X3_pathIsRight {d : Nat} : Cal yX3_pathIsRight cX3_pathIsRight 6 (some .boolean) (rmD d) 4 := ⟨gtbl_of (List.mem_of_getElem? (i := 624) (by decide +kernel)) (by decide +kernel), gtbl_of (List.mem_of_getElem? (i := 82) (by decide +kernel)) (by decide +kernel), by decide +kernel, rfl, rfl⟩
theorem im_X3_pathIsRight : Cond.instanceMethod yX3_pathIsRight ∈ gtbl := gtbl_of (List.mem_of_getElem? (i := 623) (by decide +kernel)) (by decide +kernel)
theorem se_X3_pathIsRight : Cond.selects RX3 yX3_pathIsRight yX3_pathIsRight ∈ gtbl := gtbl_of (by decide +kernel) (by decide +kernel)
theorem lk_X8_198 : (RX8, 198, yX3_stepsAreRight, "AuditVault") ∈ nestM := by decide +kernel
theorem cal_X3_stepsAreRight {d : Nat} : Cal yX3_stepsAreRight cX3_stepsAreRight 7 (some .boolean) (rmD d) 4 := ⟨gtbl_of (List.mem_of_getElem? (i := 658) (by decide +kernel)) (by decide +kernel), gtbl_of (List.mem_of_getElem? (i := 82) (by decide +kernel)) (by decide +kernel), by decide +kernel, rfl, rfl⟩
theorem im_X3_stepsAreRight : Cond.instanceMethod yX3_stepsAreRight ∈ gtbl := gtbl_of (List.mem_of_getElem? (i := 657) (by decide +kernel)) (by decide +kernel)
theorem se_X3_stepsAreRight : Cond.selects RX3 yX3_stepsAreRight yX3_stepsAreRight ∈ gtbl := gtbl_of (by decide +kernel) (by decide +kernel)
theorem lk_X8_208 : (RX8, 208, yX0_losePower, "AuditVault") ∈ nestM := by decide +kernel
theorem cal_X0_losePower {d : Nat} : Cal yX0_losePower cX0_losePower 2 none (rmD d) 1 := ⟨gtbl_of (List.mem_of_getElem? (i := 674) (by decide +kernel)) (by decide +kernel), gtbl_of (List.mem_of_getElem? (i := 83) (by decide +kernel)) (by decide +kernel), by decide +kernel, rfl, rfl⟩
theorem im_X0_losePower : Cond.instanceMethod yX0_losePower ∈ gtbl := gtbl_of (List.mem_of_getElem? (i := 673) (by decide +kernel)) (by decide +kernel)
theorem se_X0_losePower : Cond.selects RX0 yX0_losePower yX0_losePower ∈ gtbl := gtbl_of (by decide +kernel) (by decide +kernel)
theorem lk_X8_212 : Cond.methodLink RX8 212 yX8_readFrame ∈ gtbl := gtbl_of (List.mem_of_getElem? (i := 686) (by decide +kernel)) (by decide +kernel)
theorem cal_X8_readFrame {d : Nat} : Cal yX8_readFrame cX8_readFrame 3 (some .boolean) (rmD d) 1 := ⟨gtbl_of (List.mem_of_getElem? (i := 689) (by decide +kernel)) (by decide +kernel), gtbl_of (List.mem_of_getElem? (i := 75) (by decide +kernel)) (by decide +kernel), by decide +kernel, rfl, rfl⟩
theorem im_X8_readFrame : Cond.instanceMethod yX8_readFrame ∈ gtbl := gtbl_of (List.mem_of_getElem? (i := 688) (by decide +kernel)) (by decide +kernel)
theorem se_X8_readFrame : Cond.selects RX8 yX8_readFrame yX8_readFrame ∈ gtbl := gtbl_of (by decide +kernel) (by decide +kernel)
theorem lk_X8_215 : (RX8, 215, yX4_accept, "AuditVault") ∈ nestM := by decide +kernel
theorem cal_X4_accept {d : Nat} : Cal yX4_accept cX4_accept 1 none (rmD d) 0 := ⟨gtbl_of (List.mem_of_getElem? (i := 418) (by decide +kernel)) (by decide +kernel), gtbl_of (List.mem_of_getElem? (i := 80) (by decide +kernel)) (by decide +kernel), by decide +kernel, rfl, rfl⟩
theorem im_X4_accept : Cond.instanceMethod yX4_accept ∈ gtbl := gtbl_of (List.mem_of_getElem? (i := 417) (by decide +kernel)) (by decide +kernel)
theorem se_X4_accept : Cond.selects RX4 yX4_accept yX4_accept ∈ gtbl := gtbl_of (by decide +kernel) (by decide +kernel)
theorem lk_X8_218 : (RX8, 218, yX0_settle, "AuditVault") ∈ nestM := by decide +kernel
theorem cal_X0_settle {d : Nat} : Cal yX0_settle cX0_settle 2 none (rmD d) 1 := ⟨gtbl_of (List.mem_of_getElem? (i := 698) (by decide +kernel)) (by decide +kernel), gtbl_of (List.mem_of_getElem? (i := 83) (by decide +kernel)) (by decide +kernel), by decide +kernel, rfl, rfl⟩
theorem im_X0_settle : Cond.instanceMethod yX0_settle ∈ gtbl := gtbl_of (List.mem_of_getElem? (i := 697) (by decide +kernel)) (by decide +kernel)
theorem se_X0_settle : Cond.selects RX0 yX0_settle yX0_settle ∈ gtbl := gtbl_of (by decide +kernel) (by decide +kernel)
theorem lk_X8_225 : (RX8, 225, yX0_holdsFrame, "AuditVault") ∈ nestM := by decide +kernel
theorem cal_X0_holdsFrame {d : Nat} : Cal yX0_holdsFrame cX0_holdsFrame 4 (some .boolean) (rmD d) 2 := ⟨gtbl_of (List.mem_of_getElem? (i := 694) (by decide +kernel)) (by decide +kernel), gtbl_of (List.mem_of_getElem? (i := 83) (by decide +kernel)) (by decide +kernel), by decide +kernel, rfl, rfl⟩
theorem im_X0_holdsFrame : Cond.instanceMethod yX0_holdsFrame ∈ gtbl := gtbl_of (List.mem_of_getElem? (i := 693) (by decide +kernel)) (by decide +kernel)
theorem se_X0_holdsFrame : Cond.selects RX0 yX0_holdsFrame yX0_holdsFrame ∈ gtbl := gtbl_of (by decide +kernel) (by decide +kernel)
theorem lk_X8_229 : (RX8, 229, yX1_begin, "AuditVault") ∈ nestM := by decide +kernel
theorem cal_X1_begin {d : Nat} : Cal yX1_begin cX1_begin 1 none (rmD d) 0 := ⟨gtbl_of (List.mem_of_getElem? (i := 381) (by decide +kernel)) (by decide +kernel), gtbl_of (List.mem_of_getElem? (i := 77) (by decide +kernel)) (by decide +kernel), by decide +kernel, rfl, rfl⟩
theorem im_X1_begin : Cond.instanceMethod yX1_begin ∈ gtbl := gtbl_of (List.mem_of_getElem? (i := 380) (by decide +kernel)) (by decide +kernel)
theorem se_X1_begin : Cond.selects RX1 yX1_begin yX1_begin ∈ gtbl := gtbl_of (by decide +kernel) (by decide +kernel)
theorem lk_X8_232 : (RX8, 232, yX1_add, "AuditVault") ∈ nestM := by decide +kernel
theorem cal_X1_add {d : Nat} : Cal yX1_add cX1_add 3 none (rmD d) 1 := ⟨gtbl_of (List.mem_of_getElem? (i := 393) (by decide +kernel)) (by decide +kernel), gtbl_of (List.mem_of_getElem? (i := 77) (by decide +kernel)) (by decide +kernel), by decide +kernel, rfl, rfl⟩
theorem im_X1_add : Cond.instanceMethod yX1_add ∈ gtbl := gtbl_of (List.mem_of_getElem? (i := 392) (by decide +kernel)) (by decide +kernel)
theorem se_X1_add : Cond.selects RX1 yX1_add yX1_add ∈ gtbl := gtbl_of (by decide +kernel) (by decide +kernel)
theorem lk_X8_235 : (RX8, 235, yX1_finish, "AuditVault") ∈ nestM := by decide +kernel
theorem cal_X1_finish {d : Nat} : Cal yX1_finish cX1_finish 6 none (rmD d) 2 := ⟨gtbl_of (List.mem_of_getElem? (i := 402) (by decide +kernel)) (by decide +kernel), gtbl_of (List.mem_of_getElem? (i := 77) (by decide +kernel)) (by decide +kernel), by decide +kernel, rfl, rfl⟩
theorem im_X1_finish : Cond.instanceMethod yX1_finish ∈ gtbl := gtbl_of (List.mem_of_getElem? (i := 401) (by decide +kernel)) (by decide +kernel)
theorem se_X1_finish : Cond.selects RX1 yX1_finish yX1_finish ∈ gtbl := gtbl_of (by decide +kernel) (by decide +kernel)
theorem lk_X8_249 : Cond.methodLink RX8 249 yX8_subjectAt ∈ gtbl := gtbl_of (List.mem_of_getElem? (i := 728) (by decide +kernel)) (by decide +kernel)
theorem cal_X8_subjectAt {d : Nat} : Cal yX8_subjectAt cX8_subjectAt 3 (some .int) (rmD d) 2 := ⟨gtbl_of (List.mem_of_getElem? (i := 499) (by decide +kernel)) (by decide +kernel), gtbl_of (List.mem_of_getElem? (i := 75) (by decide +kernel)) (by decide +kernel), by decide +kernel, rfl, rfl⟩
theorem im_X8_subjectAt : Cond.instanceMethod yX8_subjectAt ∈ gtbl := gtbl_of (List.mem_of_getElem? (i := 497) (by decide +kernel)) (by decide +kernel)
theorem se_X8_subjectAt : Cond.selects RX8 yX8_subjectAt yX8_subjectAt ∈ gtbl := gtbl_of (by decide +kernel) (by decide +kernel)
theorem lk_X8_252 : Cond.methodLink RX8 252 yX8_objectAt ∈ gtbl := gtbl_of (List.mem_of_getElem? (i := 729) (by decide +kernel)) (by decide +kernel)
theorem cal_X8_objectAt {d : Nat} : Cal yX8_objectAt cX8_objectAt 3 (some .int) (rmD d) 2 := ⟨gtbl_of (List.mem_of_getElem? (i := 507) (by decide +kernel)) (by decide +kernel), gtbl_of (List.mem_of_getElem? (i := 75) (by decide +kernel)) (by decide +kernel), by decide +kernel, rfl, rfl⟩
theorem im_X8_objectAt : Cond.instanceMethod yX8_objectAt ∈ gtbl := gtbl_of (List.mem_of_getElem? (i := 505) (by decide +kernel)) (by decide +kernel)
theorem se_X8_objectAt : Cond.selects RX8 yX8_objectAt yX8_objectAt ∈ gtbl := gtbl_of (by decide +kernel) (by decide +kernel)
theorem lk_X8_255 : Cond.methodLink RX8 255 yX8_count ∈ gtbl := gtbl_of (List.mem_of_getElem? (i := 730) (by decide +kernel)) (by decide +kernel)
theorem cal_X8_count {d : Nat} : Cal yX8_count cX8_count 2 (some .int) (rmD d) 1 := ⟨gtbl_of (List.mem_of_getElem? (i := 721) (by decide +kernel)) (by decide +kernel), gtbl_of (List.mem_of_getElem? (i := 75) (by decide +kernel)) (by decide +kernel), by decide +kernel, rfl, rfl⟩
theorem im_X8_count : Cond.instanceMethod yX8_count ∈ gtbl := gtbl_of (List.mem_of_getElem? (i := 719) (by decide +kernel)) (by decide +kernel)
theorem se_X8_count : Cond.selects RX8 yX8_count yX8_count ∈ gtbl := gtbl_of (by decide +kernel) (by decide +kernel)
theorem lk_X8_259 : (RX8, 259, yX5_setRight, "AuditVault") ∈ nestM := by decide +kernel
theorem cal_X5_setRight {d : Nat} : Cal yX5_setRight cX5_setRight 5 none (rmD d) 4 := ⟨gtbl_of (List.mem_of_getElem? (i := 464) (by decide +kernel)) (by decide +kernel), gtbl_of (List.mem_of_getElem? (i := 76) (by decide +kernel)) (by decide +kernel), by decide +kernel, rfl, rfl⟩
theorem im_X5_setRight : Cond.instanceMethod yX5_setRight ∈ gtbl := gtbl_of (List.mem_of_getElem? (i := 463) (by decide +kernel)) (by decide +kernel)
theorem se_X5_setRight : Cond.selects RX5 yX5_setRight yX5_setRight ∈ gtbl := gtbl_of (by decide +kernel) (by decide +kernel)
theorem lk_X8_263 : (RX8, 263, yX4_draftHead, "AuditVault") ∈ nestM := by decide +kernel
theorem cal_X4_draftHead {d : Nat} : Cal yX4_draftHead cX4_draftHead 6 none (rmD d) 5 := ⟨gtbl_of (List.mem_of_getElem? (i := 365) (by decide +kernel)) (by decide +kernel), gtbl_of (List.mem_of_getElem? (i := 80) (by decide +kernel)) (by decide +kernel), by decide +kernel, rfl, rfl⟩
theorem im_X4_draftHead : Cond.instanceMethod yX4_draftHead ∈ gtbl := gtbl_of (List.mem_of_getElem? (i := 364) (by decide +kernel)) (by decide +kernel)
theorem se_X4_draftHead : Cond.selects RX4 yX4_draftHead yX4_draftHead ∈ gtbl := gtbl_of (by decide +kernel) (by decide +kernel)
theorem lk_X8_266 : (RX8, 266, yX4_draftTime, "AuditVault") ∈ nestM := by decide +kernel
theorem cal_X4_draftTime {d : Nat} : Cal yX4_draftTime cX4_draftTime 3 none (rmD d) 1 := ⟨gtbl_of (List.mem_of_getElem? (i := 373) (by decide +kernel)) (by decide +kernel), gtbl_of (List.mem_of_getElem? (i := 80) (by decide +kernel)) (by decide +kernel), by decide +kernel, rfl, rfl⟩
theorem im_X4_draftTime : Cond.instanceMethod yX4_draftTime ∈ gtbl := gtbl_of (List.mem_of_getElem? (i := 372) (by decide +kernel)) (by decide +kernel)
theorem se_X4_draftTime : Cond.selects RX4 yX4_draftTime yX4_draftTime ∈ gtbl := gtbl_of (by decide +kernel) (by decide +kernel)
theorem lk_X8_269 : (RX8, 269, yX4_linkDraft, "AuditVault") ∈ nestM := by decide +kernel
theorem cal_X4_linkDraft {d : Nat} : Cal yX4_linkDraft cX4_linkDraft 2 none (rmD d) 0 := ⟨gtbl_of (List.mem_of_getElem? (i := 377) (by decide +kernel)) (by decide +kernel), gtbl_of (List.mem_of_getElem? (i := 80) (by decide +kernel)) (by decide +kernel), by decide +kernel, rfl, rfl⟩
theorem im_X4_linkDraft : Cond.instanceMethod yX4_linkDraft ∈ gtbl := gtbl_of (List.mem_of_getElem? (i := 376) (by decide +kernel)) (by decide +kernel)
theorem se_X4_linkDraft : Cond.selects RX4 yX4_linkDraft yX4_linkDraft ∈ gtbl := gtbl_of (by decide +kernel) (by decide +kernel)
theorem lk_X8_272 : (RX8, 272, yX0_writeFrame, "AuditVault") ∈ nestM := by decide +kernel
theorem cal_X0_writeFrame {d : Nat} : Cal yX0_writeFrame cX0_writeFrame 4 none (rmD d) 2 := ⟨gtbl_of (List.mem_of_getElem? (i := 439) (by decide +kernel)) (by decide +kernel), gtbl_of (List.mem_of_getElem? (i := 83) (by decide +kernel)) (by decide +kernel), by decide +kernel, rfl, rfl⟩
theorem im_X0_writeFrame : Cond.instanceMethod yX0_writeFrame ∈ gtbl := gtbl_of (List.mem_of_getElem? (i := 438) (by decide +kernel)) (by decide +kernel)
theorem se_X0_writeFrame : Cond.selects RX0 yX0_writeFrame yX0_writeFrame ∈ gtbl := gtbl_of (by decide +kernel) (by decide +kernel)
theorem lk_X8_276 : (RX8, 276, yX4_draftByte, "AuditVault") ∈ nestM := by decide +kernel
theorem cal_X4_draftByte {d : Nat} : Cal yX4_draftByte cX4_draftByte 3 none (rmD d) 2 := ⟨gtbl_of (List.mem_of_getElem? (i := 369) (by decide +kernel)) (by decide +kernel), gtbl_of (List.mem_of_getElem? (i := 80) (by decide +kernel)) (by decide +kernel), by decide +kernel, rfl, rfl⟩
theorem im_X4_draftByte : Cond.instanceMethod yX4_draftByte ∈ gtbl := gtbl_of (List.mem_of_getElem? (i := 368) (by decide +kernel)) (by decide +kernel)
theorem se_X4_draftByte : Cond.selects RX4 yX4_draftByte yX4_draftByte ∈ gtbl := gtbl_of (by decide +kernel) (by decide +kernel)
theorem lk_X0_22 : (RX0, 22, yX4_frameByte, "AuditVault") ∈ nestM := by decide +kernel
theorem cal_X4_frameByte {d : Nat} : Cal yX4_frameByte cX4_frameByte 3 (some .int) (rmD d) 2 := ⟨gtbl_of (List.mem_of_getElem? (i := 443) (by decide +kernel)) (by decide +kernel), gtbl_of (List.mem_of_getElem? (i := 80) (by decide +kernel)) (by decide +kernel), by decide +kernel, rfl, rfl⟩
theorem im_X4_frameByte : Cond.instanceMethod yX4_frameByte ∈ gtbl := gtbl_of (List.mem_of_getElem? (i := 442) (by decide +kernel)) (by decide +kernel)
theorem se_X4_frameByte : Cond.selects RX4 yX4_frameByte yX4_frameByte ∈ gtbl := gtbl_of (by decide +kernel) (by decide +kernel)
theorem lk_X0_28 : Cond.methodLink RX0 28 yX0_clearFrom ∈ gtbl := gtbl_of (List.mem_of_getElem? (i := 675) (by decide +kernel)) (by decide +kernel)
theorem cal_X0_clearFrom {d : Nat} : Cal yX0_clearFrom cX0_clearFrom 3 none (rmD d) 1 := ⟨gtbl_of (List.mem_of_getElem? (i := 678) (by decide +kernel)) (by decide +kernel), gtbl_of (List.mem_of_getElem? (i := 83) (by decide +kernel)) (by decide +kernel), by decide +kernel, rfl, rfl⟩
theorem im_X0_clearFrom : Cond.instanceMethod yX0_clearFrom ∈ gtbl := gtbl_of (List.mem_of_getElem? (i := 677) (by decide +kernel)) (by decide +kernel)
theorem se_X0_clearFrom : Cond.selects RX0 yX0_clearFrom yX0_clearFrom ∈ gtbl := gtbl_of (by decide +kernel) (by decide +kernel)
theorem lk_X1_25 : (RX1, 25, yX2_byteAt, "AuditVault") ∈ nestM := by decide +kernel
theorem lk_X1_31 : Cond.methodLink RX1 31 yX1_add ∈ gtbl := gtbl_of (List.mem_of_getElem? (i := 390) (by decide +kernel)) (by decide +kernel)
theorem lk_X1_35 : Cond.methodLink RX1 35 yX1_begin ∈ gtbl := gtbl_of (List.mem_of_getElem? (i := 433) (by decide +kernel)) (by decide +kernel)
theorem lk_X1_38 : Cond.methodLink RX1 38 yX1_addHash ∈ gtbl := gtbl_of (List.mem_of_getElem? (i := 434) (by decide +kernel)) (by decide +kernel)
theorem cal_X1_addHash {d : Nat} : Cal yX1_addHash cX1_addHash 4 none (rmD d) 2 := ⟨gtbl_of (List.mem_of_getElem? (i := 385) (by decide +kernel)) (by decide +kernel), gtbl_of (List.mem_of_getElem? (i := 77) (by decide +kernel)) (by decide +kernel), by decide +kernel, rfl, rfl⟩
theorem im_X1_addHash : Cond.instanceMethod yX1_addHash ∈ gtbl := gtbl_of (List.mem_of_getElem? (i := 384) (by decide +kernel)) (by decide +kernel)
theorem se_X1_addHash : Cond.selects RX1 yX1_addHash yX1_addHash ∈ gtbl := gtbl_of (by decide +kernel) (by decide +kernel)
theorem lk_X1_42 : Cond.methodLink RX1 42 yX1_finish ∈ gtbl := gtbl_of (List.mem_of_getElem? (i := 435) (by decide +kernel)) (by decide +kernel)
theorem lk_X1_48 : Cond.methodLink RX1 48 yX1_spread ∈ gtbl := gtbl_of (List.mem_of_getElem? (i := 405) (by decide +kernel)) (by decide +kernel)
theorem cal_X1_spread {d : Nat} : Cal yX1_spread cX1_spread 7 none (rmD d) 1 := ⟨gtbl_of (List.mem_of_getElem? (i := 408) (by decide +kernel)) (by decide +kernel), gtbl_of (List.mem_of_getElem? (i := 77) (by decide +kernel)) (by decide +kernel), by decide +kernel, rfl, rfl⟩
theorem im_X1_spread : Cond.instanceMethod yX1_spread ∈ gtbl := gtbl_of (List.mem_of_getElem? (i := 407) (by decide +kernel)) (by decide +kernel)
theorem se_X1_spread : Cond.selects RX1 yX1_spread yX1_spread ∈ gtbl := gtbl_of (by decide +kernel) (by decide +kernel)
theorem lk_X1_51 : Cond.methodLink RX1 51 yX1_mix ∈ gtbl := gtbl_of (List.mem_of_getElem? (i := 409) (by decide +kernel)) (by decide +kernel)
theorem cal_X1_mix {d : Nat} : Cal yX1_mix cX1_mix 14 none (rmD d) 0 := ⟨gtbl_of (List.mem_of_getElem? (i := 412) (by decide +kernel)) (by decide +kernel), gtbl_of (List.mem_of_getElem? (i := 77) (by decide +kernel)) (by decide +kernel), by decide +kernel, rfl, rfl⟩
theorem im_X1_mix : Cond.instanceMethod yX1_mix ∈ gtbl := gtbl_of (List.mem_of_getElem? (i := 411) (by decide +kernel)) (by decide +kernel)
theorem se_X1_mix : Cond.selects RX1 yX1_mix yX1_mix ∈ gtbl := gtbl_of (by decide +kernel) (by decide +kernel)
theorem lk_X2_15 : Cond.methodLink RX2 15 yX2_byteAt ∈ gtbl := gtbl_of (List.mem_of_getElem? (i := 597) (by decide +kernel)) (by decide +kernel)
theorem lk_X3_11 : (RX3, 11, yX2_init, "AuditVault") ∈ nestM := by decide +kernel
theorem lk_X3_38 : (RX3, 38, yX2_copyFrom, "AuditVault") ∈ nestM := by decide +kernel
theorem cal_X2_copyFrom {d : Nat} : Cal yX2_copyFrom cX2_copyFrom 5 none (rmD d) 3 := ⟨gtbl_of (List.mem_of_getElem? (i := 548) (by decide +kernel)) (by decide +kernel), gtbl_of (List.mem_of_getElem? (i := 79) (by decide +kernel)) (by decide +kernel), by decide +kernel, rfl, rfl⟩
theorem im_X2_copyFrom : Cond.instanceMethod yX2_copyFrom ∈ gtbl := gtbl_of (List.mem_of_getElem? (i := 547) (by decide +kernel)) (by decide +kernel)
theorem se_X2_copyFrom : Cond.selects RX2 yX2_copyFrom yX2_copyFrom ∈ gtbl := gtbl_of (by decide +kernel) (by decide +kernel)
theorem lk_X3_47 : Cond.methodLink RX3 47 yX3_comesFromLeft ∈ gtbl := gtbl_of (List.mem_of_getElem? (i := 626) (by decide +kernel)) (by decide +kernel)
theorem cal_X3_comesFromLeft {d : Nat} : Cal yX3_comesFromLeft cX3_comesFromLeft 1 (some .boolean) (rmD d) 0 := ⟨gtbl_of (List.mem_of_getElem? (i := 629) (by decide +kernel)) (by decide +kernel), gtbl_of (List.mem_of_getElem? (i := 82) (by decide +kernel)) (by decide +kernel), by decide +kernel, rfl, rfl⟩
theorem im_X3_comesFromLeft : Cond.instanceMethod yX3_comesFromLeft ∈ gtbl := gtbl_of (List.mem_of_getElem? (i := 628) (by decide +kernel)) (by decide +kernel)
theorem se_X3_comesFromLeft : Cond.selects RX3 yX3_comesFromLeft yX3_comesFromLeft ∈ gtbl := gtbl_of (by decide +kernel) (by decide +kernel)
theorem lk_X3_51 : Cond.methodLink RX3 51 yX3_putLeft ∈ gtbl := gtbl_of (List.mem_of_getElem? (i := 630) (by decide +kernel)) (by decide +kernel)
theorem cal_X3_putLeft {d : Nat} : Cal yX3_putLeft cX3_putLeft 3 none (rmD d) 2 := ⟨gtbl_of (List.mem_of_getElem? (i := 633) (by decide +kernel)) (by decide +kernel), gtbl_of (List.mem_of_getElem? (i := 82) (by decide +kernel)) (by decide +kernel), by decide +kernel, rfl, rfl⟩
theorem im_X3_putLeft : Cond.instanceMethod yX3_putLeft ∈ gtbl := gtbl_of (List.mem_of_getElem? (i := 632) (by decide +kernel)) (by decide +kernel)
theorem se_X3_putLeft : Cond.selects RX3 yX3_putLeft yX3_putLeft ∈ gtbl := gtbl_of (by decide +kernel) (by decide +kernel)
theorem lk_X3_55 : Cond.methodLink RX3 55 yX3_skipLevels ∈ gtbl := gtbl_of (List.mem_of_getElem? (i := 635) (by decide +kernel)) (by decide +kernel)
theorem cal_X3_skipLevels {d : Nat} : Cal yX3_skipLevels cX3_skipLevels 2 none (rmD d) 0 := ⟨gtbl_of (List.mem_of_getElem? (i := 638) (by decide +kernel)) (by decide +kernel), gtbl_of (List.mem_of_getElem? (i := 82) (by decide +kernel)) (by decide +kernel), by decide +kernel, rfl, rfl⟩
theorem im_X3_skipLevels : Cond.instanceMethod yX3_skipLevels ∈ gtbl := gtbl_of (List.mem_of_getElem? (i := 637) (by decide +kernel)) (by decide +kernel)
theorem se_X3_skipLevels : Cond.selects RX3 yX3_skipLevels yX3_skipLevels ∈ gtbl := gtbl_of (by decide +kernel) (by decide +kernel)
theorem lk_X3_58 : Cond.methodLink RX3 58 yX3_putRight ∈ gtbl := gtbl_of (List.mem_of_getElem? (i := 643) (by decide +kernel)) (by decide +kernel)
theorem cal_X3_putRight {d : Nat} : Cal yX3_putRight cX3_putRight 3 none (rmD d) 2 := ⟨gtbl_of (List.mem_of_getElem? (i := 646) (by decide +kernel)) (by decide +kernel), gtbl_of (List.mem_of_getElem? (i := 82) (by decide +kernel)) (by decide +kernel), by decide +kernel, rfl, rfl⟩
theorem im_X3_putRight : Cond.instanceMethod yX3_putRight ∈ gtbl := gtbl_of (List.mem_of_getElem? (i := 645) (by decide +kernel)) (by decide +kernel)
theorem se_X3_putRight : Cond.selects RX3 yX3_putRight yX3_putRight ∈ gtbl := gtbl_of (by decide +kernel) (by decide +kernel)
theorem lk_X3_61 : Cond.methodLink RX3 61 yX3_halve ∈ gtbl := gtbl_of (List.mem_of_getElem? (i := 639) (by decide +kernel)) (by decide +kernel)
theorem cal_X3_halve {d : Nat} : Cal yX3_halve cX3_halve 1 none (rmD d) 0 := ⟨gtbl_of (List.mem_of_getElem? (i := 642) (by decide +kernel)) (by decide +kernel), gtbl_of (List.mem_of_getElem? (i := 82) (by decide +kernel)) (by decide +kernel), by decide +kernel, rfl, rfl⟩
theorem im_X3_halve : Cond.instanceMethod yX3_halve ∈ gtbl := gtbl_of (List.mem_of_getElem? (i := 641) (by decide +kernel)) (by decide +kernel)
theorem se_X3_halve : Cond.selects RX3 yX3_halve yX3_halve ∈ gtbl := gtbl_of (by decide +kernel) (by decide +kernel)
theorem lk_X3_64 : (RX3, 64, yX2_isSame, "AuditVault") ∈ nestM := by decide +kernel
theorem cal_X2_isSame {d : Nat} : Cal yX2_isSame cX2_isSame 5 (some .boolean) (rmD d) 3 := ⟨gtbl_of (List.mem_of_getElem? (i := 650) (by decide +kernel)) (by decide +kernel), gtbl_of (List.mem_of_getElem? (i := 79) (by decide +kernel)) (by decide +kernel), by decide +kernel, rfl, rfl⟩
theorem im_X2_isSame : Cond.instanceMethod yX2_isSame ∈ gtbl := gtbl_of (List.mem_of_getElem? (i := 649) (by decide +kernel)) (by decide +kernel)
theorem se_X2_isSame : Cond.selects RX2 yX2_isSame yX2_isSame ∈ gtbl := gtbl_of (by decide +kernel) (by decide +kernel)
theorem lk_X3_71 : Cond.methodLink RX3 71 yX3_startSteps ∈ gtbl := gtbl_of (List.mem_of_getElem? (i := 659) (by decide +kernel)) (by decide +kernel)
theorem cal_X3_startSteps {d : Nat} : Cal yX3_startSteps cX3_startSteps 4 none (rmD d) 2 := ⟨gtbl_of (List.mem_of_getElem? (i := 662) (by decide +kernel)) (by decide +kernel), gtbl_of (List.mem_of_getElem? (i := 82) (by decide +kernel)) (by decide +kernel), by decide +kernel, rfl, rfl⟩
theorem im_X3_startSteps : Cond.instanceMethod yX3_startSteps ∈ gtbl := gtbl_of (List.mem_of_getElem? (i := 661) (by decide +kernel)) (by decide +kernel)
theorem se_X3_startSteps : Cond.selects RX3 yX3_startSteps yX3_startSteps ∈ gtbl := gtbl_of (by decide +kernel) (by decide +kernel)
theorem lk_X3_74 : (RX3, 74, yX1_pairInto, "AuditVault") ∈ nestM := by decide +kernel
theorem cal_X1_pairInto {d : Nat} : Cal yX1_pairInto cX1_pairInto 7 none (rmD d) 6 := ⟨gtbl_of (List.mem_of_getElem? (i := 432) (by decide +kernel)) (by decide +kernel), gtbl_of (List.mem_of_getElem? (i := 77) (by decide +kernel)) (by decide +kernel), by decide +kernel, rfl, rfl⟩
theorem im_X1_pairInto : Cond.instanceMethod yX1_pairInto ∈ gtbl := gtbl_of (List.mem_of_getElem? (i := 431) (by decide +kernel)) (by decide +kernel)
theorem se_X1_pairInto : Cond.selects RX1 yX1_pairInto yX1_pairInto ∈ gtbl := gtbl_of (by decide +kernel) (by decide +kernel)
theorem lk_X4_17 : (RX4, 17, yX2_init, "AuditVault") ∈ nestM := by decide +kernel
theorem lk_X4_36 : (RX4, 36, yX2_byteAt, "AuditVault") ∈ nestM := by decide +kernel
theorem lk_X4_40 : Cond.methodLink RX4 40 yX4_entryByte ∈ gtbl := gtbl_of (List.mem_of_getElem? (i := 394) (by decide +kernel)) (by decide +kernel)
theorem lk_X4_43 : Cond.methodLink RX4 43 yX4_linkByte ∈ gtbl := gtbl_of (List.mem_of_getElem? (i := 444) (by decide +kernel)) (by decide +kernel)
theorem lk_X4_46 : Cond.methodLink RX4 46 yX4_draftByte ∈ gtbl := gtbl_of (List.mem_of_getElem? (i := 366) (by decide +kernel)) (by decide +kernel)
theorem lk_X4_50 : (RX4, 50, yX1_begin, "AuditVault") ∈ nestM := by decide +kernel
theorem lk_X4_55 : (RX4, 55, yX1_addHash, "AuditVault") ∈ nestM := by decide +kernel
theorem lk_X4_59 : (RX4, 59, yX1_add, "AuditVault") ∈ nestM := by decide +kernel
theorem lk_X4_62 : (RX4, 62, yX1_finish, "AuditVault") ∈ nestM := by decide +kernel
theorem lk_X4_65 : (RX4, 65, yX7_addLeaf, "AuditVault") ∈ nestM := by decide +kernel
theorem cal_X7_addLeaf {d : Nat} : Cal yX7_addLeaf cX7_addLeaf 8 none (rmD d) 2 := ⟨gtbl_of (List.mem_of_getElem? (i := 422) (by decide +kernel)) (by decide +kernel), gtbl_of (List.mem_of_getElem? (i := 78) (by decide +kernel)) (by decide +kernel), by decide +kernel, rfl, rfl⟩
theorem im_X7_addLeaf : Cond.instanceMethod yX7_addLeaf ∈ gtbl := gtbl_of (List.mem_of_getElem? (i := 421) (by decide +kernel)) (by decide +kernel)
theorem se_X7_addLeaf : Cond.selects RX7 yX7_addLeaf yX7_addLeaf ∈ gtbl := gtbl_of (by decide +kernel) (by decide +kernel)
theorem lk_X5_41 : Cond.methodLink RX5 41 yX5_holds ∈ gtbl := gtbl_of (List.mem_of_getElem? (i := 343) (by decide +kernel)) (by decide +kernel)
theorem cal_X5_holds {d : Nat} : Cal yX5_holds cX5_holds 4 (some .boolean) (rmD d) 3 := ⟨gtbl_of (List.mem_of_getElem? (i := 346) (by decide +kernel)) (by decide +kernel), gtbl_of (List.mem_of_getElem? (i := 76) (by decide +kernel)) (by decide +kernel), by decide +kernel, rfl, rfl⟩
theorem im_X5_holds : Cond.instanceMethod yX5_holds ∈ gtbl := gtbl_of (List.mem_of_getElem? (i := 345) (by decide +kernel)) (by decide +kernel)
theorem se_X5_holds : Cond.selects RX5 yX5_holds yX5_holds ∈ gtbl := gtbl_of (by decide +kernel) (by decide +kernel)
theorem lk_X5_45 : Cond.methodLink RX5 45 yX5_hasBeenGiven ∈ gtbl := gtbl_of (List.mem_of_getElem? (i := 347) (by decide +kernel)) (by decide +kernel)
theorem lk_X5_48 : Cond.methodLink RX5 48 yX5_rightAt ∈ gtbl := gtbl_of (List.mem_of_getElem? (i := 351) (by decide +kernel)) (by decide +kernel)
theorem cal_X5_rightAt {d : Nat} : Cal yX5_rightAt cX5_rightAt 3 (some .int) (rmD d) 3 := ⟨gtbl_of (List.mem_of_getElem? (i := 353) (by decide +kernel)) (by decide +kernel), gtbl_of (List.mem_of_getElem? (i := 76) (by decide +kernel)) (by decide +kernel), by decide +kernel, rfl, rfl⟩
theorem st_X5_rightAt : Cond.static yX5_rightAt ∈ gtbl := gtbl_of (List.mem_of_getElem? (i := 352) (by decide +kernel)) (by decide +kernel)
theorem lk_X6_11 : (RX6, 11, yX2_init, "AuditVault") ∈ nestM := by decide +kernel
theorem lk_X6_38 : Cond.methodLink RX6 38 yX6_splitOf ∈ gtbl := gtbl_of (List.mem_of_getElem? (i := 558) (by decide +kernel)) (by decide +kernel)
theorem cal_X6_splitOf {d : Nat} : Cal yX6_splitOf cX6_splitOf 3 (some .int) (rmD d) 1 := ⟨gtbl_of (List.mem_of_getElem? (i := 560) (by decide +kernel)) (by decide +kernel), gtbl_of (List.mem_of_getElem? (i := 81) (by decide +kernel)) (by decide +kernel), by decide +kernel, rfl, rfl⟩
theorem st_X6_splitOf : Cond.static yX6_splitOf ∈ gtbl := gtbl_of (List.mem_of_getElem? (i := 559) (by decide +kernel)) (by decide +kernel)
theorem lk_X6_42 : Cond.methodLink RX6 42 yX6_addRun ∈ gtbl := gtbl_of (List.mem_of_getElem? (i := 561) (by decide +kernel)) (by decide +kernel)
theorem cal_X6_addRun {d : Nat} : Cal yX6_addRun cX6_addRun 3 none (rmD d) 2 := ⟨gtbl_of (List.mem_of_getElem? (i := 564) (by decide +kernel)) (by decide +kernel), gtbl_of (List.mem_of_getElem? (i := 81) (by decide +kernel)) (by decide +kernel), by decide +kernel, rfl, rfl⟩
theorem im_X6_addRun : Cond.instanceMethod yX6_addRun ∈ gtbl := gtbl_of (List.mem_of_getElem? (i := 563) (by decide +kernel)) (by decide +kernel)
theorem se_X6_addRun : Cond.selects RX6 yX6_addRun yX6_addRun ∈ gtbl := gtbl_of (by decide +kernel) (by decide +kernel)
theorem lk_X6_46 : Cond.methodLink RX6 46 yX6_fillFromRuns ∈ gtbl := gtbl_of (List.mem_of_getElem? (i := 565) (by decide +kernel)) (by decide +kernel)
theorem cal_X6_fillFromRuns {d : Nat} : Cal yX6_fillFromRuns cX6_fillFromRuns 3 (some .int) (rmD d) 0 := ⟨gtbl_of (List.mem_of_getElem? (i := 568) (by decide +kernel)) (by decide +kernel), gtbl_of (List.mem_of_getElem? (i := 81) (by decide +kernel)) (by decide +kernel), by decide +kernel, rfl, rfl⟩
theorem im_X6_fillFromRuns : Cond.instanceMethod yX6_fillFromRuns ∈ gtbl := gtbl_of (List.mem_of_getElem? (i := 567) (by decide +kernel)) (by decide +kernel)
theorem se_X6_fillFromRuns : Cond.selects RX6 yX6_fillFromRuns yX6_fillFromRuns ∈ gtbl := gtbl_of (by decide +kernel) (by decide +kernel)
theorem lk_X6_50 : (RX6, 50, yX7_rootOf, "AuditVault") ∈ nestM := by decide +kernel
theorem lk_X7_11 : (RX7, 11, yX2_init, "AuditVault") ∈ nestM := by decide +kernel
theorem lk_X7_24 : (RX7, 24, yX1_begin, "AuditVault") ∈ nestM := by decide +kernel
theorem lk_X7_29 : (RX7, 29, yX1_add, "AuditVault") ∈ nestM := by decide +kernel
theorem lk_X7_32 : Cond.methodLink RX7 32 yX7_nodeAt ∈ gtbl := gtbl_of (List.mem_of_getElem? (i := 425) (by decide +kernel)) (by decide +kernel)
theorem cal_X7_nodeAt {d : Nat} : Cal yX7_nodeAt cX7_nodeAt 2 (some .int) (rmD d) 2 := ⟨gtbl_of (List.mem_of_getElem? (i := 427) (by decide +kernel)) (by decide +kernel), gtbl_of (List.mem_of_getElem? (i := 78) (by decide +kernel)) (by decide +kernel), by decide +kernel, rfl, rfl⟩
theorem st_X7_nodeAt : Cond.static yX7_nodeAt ∈ gtbl := gtbl_of (List.mem_of_getElem? (i := 426) (by decide +kernel)) (by decide +kernel)
theorem lk_X7_36 : (RX7, 36, yX1_finish, "AuditVault") ∈ nestM := by decide +kernel
theorem lk_X7_40 : (RX7, 40, yX1_pairInto, "AuditVault") ∈ nestM := by decide +kernel
theorem lk_X7_44 : (RX7, 44, yX2_copyFrom, "AuditVault") ∈ nestM := by decide +kernel
theorem lk_L_9 : Cond.methodLink RL 9 yX8_init ∈ gtbl := gtbl_of (List.mem_of_getElem? (i := 88) (by decide +kernel)) (by decide +kernel)
theorem lk_L_12 : Cond.methodLink RL 12 yX9_init ∈ gtbl := gtbl_of (List.mem_of_getElem? (i := 733) (by decide +kernel)) (by decide +kernel)
theorem lk_L_13 : Cond.methodLink RL 13 yX8_clock ∈ gtbl := gtbl_of (List.mem_of_getElem? (i := 313) (by decide +kernel)) (by decide +kernel)
theorem cal_X8_clock {d : Nat} : Cal yX8_clock cX8_clock 2 (some .int) (rmD d) 1 := ⟨gtbl_of (List.mem_of_getElem? (i := 316) (by decide +kernel)) (by decide +kernel), gtbl_of (List.mem_of_getElem? (i := 75) (by decide +kernel)) (by decide +kernel), by decide +kernel, rfl, rfl⟩
theorem im_X8_clock : Cond.instanceMethod yX8_clock ∈ gtbl := gtbl_of (List.mem_of_getElem? (i := 314) (by decide +kernel)) (by decide +kernel)
theorem se_X8_clock : Cond.selects RX8 yX8_clock yX8_clock ∈ gtbl := gtbl_of (by decide +kernel) (by decide +kernel)
theorem lk_L_17 : Cond.methodLink RL 17 yX9_clock ∈ gtbl := gtbl_of (List.mem_of_getElem? (i := 904) (by decide +kernel)) (by decide +kernel)
theorem cal_X9_clock {d : Nat} : Cal yX9_clock cX9_clock 2 (some .int) (rmD d) 1 := ⟨gtbl_of (List.mem_of_getElem? (i := 907) (by decide +kernel)) (by decide +kernel), gtbl_of (List.mem_of_getElem? (i := 84) (by decide +kernel)) (by decide +kernel), by decide +kernel, rfl, rfl⟩
theorem im_X9_clock : Cond.instanceMethod yX9_clock ∈ gtbl := gtbl_of (List.mem_of_getElem? (i := 905) (by decide +kernel)) (by decide +kernel)
theorem se_X9_clock : Cond.selects RX9 yX9_clock yX9_clock ∈ gtbl := gtbl_of (by decide +kernel) (by decide +kernel)
theorem lk_L_18 : Cond.methodLink RL 18 yX8_request ∈ gtbl := gtbl_of (List.mem_of_getElem? (i := 322) (by decide +kernel)) (by decide +kernel)
theorem cal_X8_request {d : Nat} : Cal yX8_request cX8_request 6 (some .int) (rmD d) 3 := ⟨gtbl_of (List.mem_of_getElem? (i := 325) (by decide +kernel)) (by decide +kernel), gtbl_of (List.mem_of_getElem? (i := 75) (by decide +kernel)) (by decide +kernel), by decide +kernel, rfl, rfl⟩
theorem im_X8_request : Cond.instanceMethod yX8_request ∈ gtbl := gtbl_of (List.mem_of_getElem? (i := 323) (by decide +kernel)) (by decide +kernel)
theorem se_X8_request : Cond.selects RX8 yX8_request yX8_request ∈ gtbl := gtbl_of (by decide +kernel) (by decide +kernel)
theorem lk_L_22 : Cond.methodLink RL 22 yX9_request ∈ gtbl := gtbl_of (List.mem_of_getElem? (i := 913) (by decide +kernel)) (by decide +kernel)
theorem cal_X9_request {d : Nat} : Cal yX9_request cX9_request 5 (some .int) (rmD d) 3 := ⟨gtbl_of (List.mem_of_getElem? (i := 916) (by decide +kernel)) (by decide +kernel), gtbl_of (List.mem_of_getElem? (i := 84) (by decide +kernel)) (by decide +kernel), by decide +kernel, rfl, rfl⟩
theorem im_X9_request : Cond.instanceMethod yX9_request ∈ gtbl := gtbl_of (List.mem_of_getElem? (i := 914) (by decide +kernel)) (by decide +kernel)
theorem se_X9_request : Cond.selects RX9 yX9_request yX9_request ∈ gtbl := gtbl_of (by decide +kernel) (by decide +kernel)
theorem lk_L_23 : Cond.methodLink RL 23 yX8_give ∈ gtbl := gtbl_of (List.mem_of_getElem? (i := 449) (by decide +kernel)) (by decide +kernel)
theorem cal_X8_give {d : Nat} : Cal yX8_give cX8_give 4 (some .int) (rmD d) 3 := ⟨gtbl_of (List.mem_of_getElem? (i := 452) (by decide +kernel)) (by decide +kernel), gtbl_of (List.mem_of_getElem? (i := 75) (by decide +kernel)) (by decide +kernel), by decide +kernel, rfl, rfl⟩
theorem im_X8_give : Cond.instanceMethod yX8_give ∈ gtbl := gtbl_of (List.mem_of_getElem? (i := 450) (by decide +kernel)) (by decide +kernel)
theorem se_X8_give : Cond.selects RX8 yX8_give yX8_give ∈ gtbl := gtbl_of (by decide +kernel) (by decide +kernel)
theorem lk_L_26 : Cond.methodLink RL 26 yX9_give ∈ gtbl := gtbl_of (List.mem_of_getElem? (i := 984) (by decide +kernel)) (by decide +kernel)
theorem cal_X9_give {d : Nat} : Cal yX9_give cX9_give 4 (some .int) (rmD d) 3 := ⟨gtbl_of (List.mem_of_getElem? (i := 987) (by decide +kernel)) (by decide +kernel), gtbl_of (List.mem_of_getElem? (i := 84) (by decide +kernel)) (by decide +kernel), by decide +kernel, rfl, rfl⟩
theorem im_X9_give : Cond.instanceMethod yX9_give ∈ gtbl := gtbl_of (List.mem_of_getElem? (i := 985) (by decide +kernel)) (by decide +kernel)
theorem se_X9_give : Cond.selects RX9 yX9_give yX9_give ∈ gtbl := gtbl_of (by decide +kernel) (by decide +kernel)
theorem lk_L_27 : Cond.methodLink RL 27 yX8_take ∈ gtbl := gtbl_of (List.mem_of_getElem? (i := 465) (by decide +kernel)) (by decide +kernel)
theorem cal_X8_take {d : Nat} : Cal yX8_take cX8_take 4 (some .int) (rmD d) 3 := ⟨gtbl_of (List.mem_of_getElem? (i := 468) (by decide +kernel)) (by decide +kernel), gtbl_of (List.mem_of_getElem? (i := 75) (by decide +kernel)) (by decide +kernel), by decide +kernel, rfl, rfl⟩
theorem im_X8_take : Cond.instanceMethod yX8_take ∈ gtbl := gtbl_of (List.mem_of_getElem? (i := 466) (by decide +kernel)) (by decide +kernel)
theorem se_X8_take : Cond.selects RX8 yX8_take yX8_take ∈ gtbl := gtbl_of (by decide +kernel) (by decide +kernel)
theorem lk_L_30 : Cond.methodLink RL 30 yX9_take ∈ gtbl := gtbl_of (List.mem_of_getElem? (i := 997) (by decide +kernel)) (by decide +kernel)
theorem cal_X9_take {d : Nat} : Cal yX9_take cX9_take 4 (some .int) (rmD d) 3 := ⟨gtbl_of (List.mem_of_getElem? (i := 1000) (by decide +kernel)) (by decide +kernel), gtbl_of (List.mem_of_getElem? (i := 84) (by decide +kernel)) (by decide +kernel), by decide +kernel, rfl, rfl⟩
theorem im_X9_take : Cond.instanceMethod yX9_take ∈ gtbl := gtbl_of (List.mem_of_getElem? (i := 998) (by decide +kernel)) (by decide +kernel)
theorem se_X9_take : Cond.selects RX9 yX9_take yX9_take ∈ gtbl := gtbl_of (by decide +kernel) (by decide +kernel)
theorem lk_L_31 : Cond.methodLink RL 31 yX8_subject ∈ gtbl := gtbl_of (List.mem_of_getElem? (i := 469) (by decide +kernel)) (by decide +kernel)
theorem cal_X8_subject {d : Nat} : Cal yX8_subject cX8_subject 5 (some .int) (rmD d) 3 := ⟨gtbl_of (List.mem_of_getElem? (i := 472) (by decide +kernel)) (by decide +kernel), gtbl_of (List.mem_of_getElem? (i := 75) (by decide +kernel)) (by decide +kernel), by decide +kernel, rfl, rfl⟩
theorem im_X8_subject : Cond.instanceMethod yX8_subject ∈ gtbl := gtbl_of (List.mem_of_getElem? (i := 470) (by decide +kernel)) (by decide +kernel)
theorem se_X8_subject : Cond.selects RX8 yX8_subject yX8_subject ∈ gtbl := gtbl_of (by decide +kernel) (by decide +kernel)
theorem lk_L_34 : Cond.methodLink RL 34 yX9_subject ∈ gtbl := gtbl_of (List.mem_of_getElem? (i := 1001) (by decide +kernel)) (by decide +kernel)
theorem cal_X9_subject {d : Nat} : Cal yX9_subject cX9_subject 4 (some .int) (rmD d) 3 := ⟨gtbl_of (List.mem_of_getElem? (i := 1004) (by decide +kernel)) (by decide +kernel), gtbl_of (List.mem_of_getElem? (i := 84) (by decide +kernel)) (by decide +kernel), by decide +kernel, rfl, rfl⟩
theorem im_X9_subject : Cond.instanceMethod yX9_subject ∈ gtbl := gtbl_of (List.mem_of_getElem? (i := 1002) (by decide +kernel)) (by decide +kernel)
theorem se_X9_subject : Cond.selects RX9 yX9_subject yX9_subject ∈ gtbl := gtbl_of (by decide +kernel) (by decide +kernel)
theorem lk_L_35 : Cond.methodLink RL 35 yX8_object ∈ gtbl := gtbl_of (List.mem_of_getElem? (i := 480) (by decide +kernel)) (by decide +kernel)
theorem cal_X8_object {d : Nat} : Cal yX8_object cX8_object 5 (some .int) (rmD d) 3 := ⟨gtbl_of (List.mem_of_getElem? (i := 483) (by decide +kernel)) (by decide +kernel), gtbl_of (List.mem_of_getElem? (i := 75) (by decide +kernel)) (by decide +kernel), by decide +kernel, rfl, rfl⟩
theorem im_X8_object : Cond.instanceMethod yX8_object ∈ gtbl := gtbl_of (List.mem_of_getElem? (i := 481) (by decide +kernel)) (by decide +kernel)
theorem se_X8_object : Cond.selects RX8 yX8_object yX8_object ∈ gtbl := gtbl_of (by decide +kernel) (by decide +kernel)
theorem lk_L_38 : Cond.methodLink RL 38 yX9_object ∈ gtbl := gtbl_of (List.mem_of_getElem? (i := 1006) (by decide +kernel)) (by decide +kernel)
theorem cal_X9_object {d : Nat} : Cal yX9_object cX9_object 4 (some .int) (rmD d) 3 := ⟨gtbl_of (List.mem_of_getElem? (i := 1009) (by decide +kernel)) (by decide +kernel), gtbl_of (List.mem_of_getElem? (i := 84) (by decide +kernel)) (by decide +kernel), by decide +kernel, rfl, rfl⟩
theorem im_X9_object : Cond.instanceMethod yX9_object ∈ gtbl := gtbl_of (List.mem_of_getElem? (i := 1007) (by decide +kernel)) (by decide +kernel)
theorem se_X9_object : Cond.selects RX9 yX9_object yX9_object ∈ gtbl := gtbl_of (by decide +kernel) (by decide +kernel)
theorem lk_L_39 : Cond.methodLink RL 39 yX8_unlock ∈ gtbl := gtbl_of (List.mem_of_getElem? (i := 488) (by decide +kernel)) (by decide +kernel)
theorem cal_X8_unlock {d : Nat} : Cal yX8_unlock cX8_unlock 4 (some .int) (rmD d) 1 := ⟨gtbl_of (List.mem_of_getElem? (i := 491) (by decide +kernel)) (by decide +kernel), gtbl_of (List.mem_of_getElem? (i := 75) (by decide +kernel)) (by decide +kernel), by decide +kernel, rfl, rfl⟩
theorem im_X8_unlock : Cond.instanceMethod yX8_unlock ∈ gtbl := gtbl_of (List.mem_of_getElem? (i := 489) (by decide +kernel)) (by decide +kernel)
theorem se_X8_unlock : Cond.selects RX8 yX8_unlock yX8_unlock ∈ gtbl := gtbl_of (by decide +kernel) (by decide +kernel)
theorem lk_L_42 : Cond.methodLink RL 42 yX9_unlock ∈ gtbl := gtbl_of (List.mem_of_getElem? (i := 1010) (by decide +kernel)) (by decide +kernel)
theorem cal_X9_unlock {d : Nat} : Cal yX9_unlock cX9_unlock 3 (some .int) (rmD d) 1 := ⟨gtbl_of (List.mem_of_getElem? (i := 1013) (by decide +kernel)) (by decide +kernel), gtbl_of (List.mem_of_getElem? (i := 84) (by decide +kernel)) (by decide +kernel), by decide +kernel, rfl, rfl⟩
theorem im_X9_unlock : Cond.instanceMethod yX9_unlock ∈ gtbl := gtbl_of (List.mem_of_getElem? (i := 1011) (by decide +kernel)) (by decide +kernel)
theorem se_X9_unlock : Cond.selects RX9 yX9_unlock yX9_unlock ∈ gtbl := gtbl_of (by decide +kernel) (by decide +kernel)
theorem lk_L_43 : Cond.methodLink RL 43 yX8_subjectAt ∈ gtbl := gtbl_of (List.mem_of_getElem? (i := 496) (by decide +kernel)) (by decide +kernel)
theorem lk_L_47 : Cond.methodLink RL 47 yX9_subjectAt ∈ gtbl := gtbl_of (List.mem_of_getElem? (i := 1014) (by decide +kernel)) (by decide +kernel)
theorem cal_X9_subjectAt {d : Nat} : Cal yX9_subjectAt cX9_subjectAt 3 (some .int) (rmD d) 2 := ⟨gtbl_of (List.mem_of_getElem? (i := 1017) (by decide +kernel)) (by decide +kernel), gtbl_of (List.mem_of_getElem? (i := 84) (by decide +kernel)) (by decide +kernel), by decide +kernel, rfl, rfl⟩
theorem im_X9_subjectAt : Cond.instanceMethod yX9_subjectAt ∈ gtbl := gtbl_of (List.mem_of_getElem? (i := 1015) (by decide +kernel)) (by decide +kernel)
theorem se_X9_subjectAt : Cond.selects RX9 yX9_subjectAt yX9_subjectAt ∈ gtbl := gtbl_of (by decide +kernel) (by decide +kernel)
theorem lk_L_48 : Cond.methodLink RL 48 yX8_objectAt ∈ gtbl := gtbl_of (List.mem_of_getElem? (i := 504) (by decide +kernel)) (by decide +kernel)
theorem lk_L_51 : Cond.methodLink RL 51 yX9_objectAt ∈ gtbl := gtbl_of (List.mem_of_getElem? (i := 1018) (by decide +kernel)) (by decide +kernel)
theorem cal_X9_objectAt {d : Nat} : Cal yX9_objectAt cX9_objectAt 3 (some .int) (rmD d) 2 := ⟨gtbl_of (List.mem_of_getElem? (i := 1021) (by decide +kernel)) (by decide +kernel), gtbl_of (List.mem_of_getElem? (i := 84) (by decide +kernel)) (by decide +kernel), by decide +kernel, rfl, rfl⟩
theorem im_X9_objectAt : Cond.instanceMethod yX9_objectAt ∈ gtbl := gtbl_of (List.mem_of_getElem? (i := 1019) (by decide +kernel)) (by decide +kernel)
theorem se_X9_objectAt : Cond.selects RX9 yX9_objectAt yX9_objectAt ∈ gtbl := gtbl_of (by decide +kernel) (by decide +kernel)
theorem lk_L_52 : Cond.methodLink RL 52 yX8_given ∈ gtbl := gtbl_of (List.mem_of_getElem? (i := 512) (by decide +kernel)) (by decide +kernel)
theorem cal_X8_given {d : Nat} : Cal yX8_given cX8_given 4 (some .int) (rmD d) 3 := ⟨gtbl_of (List.mem_of_getElem? (i := 515) (by decide +kernel)) (by decide +kernel), gtbl_of (List.mem_of_getElem? (i := 75) (by decide +kernel)) (by decide +kernel), by decide +kernel, rfl, rfl⟩
theorem im_X8_given : Cond.instanceMethod yX8_given ∈ gtbl := gtbl_of (List.mem_of_getElem? (i := 513) (by decide +kernel)) (by decide +kernel)
theorem se_X8_given : Cond.selects RX8 yX8_given yX8_given ∈ gtbl := gtbl_of (by decide +kernel) (by decide +kernel)
theorem lk_L_55 : Cond.methodLink RL 55 yX9_given ∈ gtbl := gtbl_of (List.mem_of_getElem? (i := 1022) (by decide +kernel)) (by decide +kernel)
theorem cal_X9_given {d : Nat} : Cal yX9_given cX9_given 4 (some .int) (rmD d) 3 := ⟨gtbl_of (List.mem_of_getElem? (i := 1025) (by decide +kernel)) (by decide +kernel), gtbl_of (List.mem_of_getElem? (i := 84) (by decide +kernel)) (by decide +kernel), by decide +kernel, rfl, rfl⟩
theorem im_X9_given : Cond.instanceMethod yX9_given ∈ gtbl := gtbl_of (List.mem_of_getElem? (i := 1023) (by decide +kernel)) (by decide +kernel)
theorem se_X9_given : Cond.selects RX9 yX9_given yX9_given ∈ gtbl := gtbl_of (by decide +kernel) (by decide +kernel)
theorem lk_L_56 : Cond.methodLink RL 56 yX8_entry ∈ gtbl := gtbl_of (List.mem_of_getElem? (i := 516) (by decide +kernel)) (by decide +kernel)
theorem cal_X8_entry {d : Nat} : Cal yX8_entry cX8_entry 3 (some .int) (rmD d) 2 := ⟨gtbl_of (List.mem_of_getElem? (i := 519) (by decide +kernel)) (by decide +kernel), gtbl_of (List.mem_of_getElem? (i := 75) (by decide +kernel)) (by decide +kernel), by decide +kernel, rfl, rfl⟩
theorem im_X8_entry : Cond.instanceMethod yX8_entry ∈ gtbl := gtbl_of (List.mem_of_getElem? (i := 517) (by decide +kernel)) (by decide +kernel)
theorem se_X8_entry : Cond.selects RX8 yX8_entry yX8_entry ∈ gtbl := gtbl_of (by decide +kernel) (by decide +kernel)
theorem lk_L_59 : Cond.methodLink RL 59 yX9_entry ∈ gtbl := gtbl_of (List.mem_of_getElem? (i := 1026) (by decide +kernel)) (by decide +kernel)
theorem cal_X9_entry {d : Nat} : Cal yX9_entry cX9_entry 3 (some .int) (rmD d) 2 := ⟨gtbl_of (List.mem_of_getElem? (i := 1029) (by decide +kernel)) (by decide +kernel), gtbl_of (List.mem_of_getElem? (i := 84) (by decide +kernel)) (by decide +kernel), by decide +kernel, rfl, rfl⟩
theorem im_X9_entry : Cond.instanceMethod yX9_entry ∈ gtbl := gtbl_of (List.mem_of_getElem? (i := 1027) (by decide +kernel)) (by decide +kernel)
theorem se_X9_entry : Cond.selects RX9 yX9_entry yX9_entry ∈ gtbl := gtbl_of (by decide +kernel) (by decide +kernel)
theorem lk_L_60 : Cond.methodLink RL 60 yX8_chain ∈ gtbl := gtbl_of (List.mem_of_getElem? (i := 525) (by decide +kernel)) (by decide +kernel)
theorem cal_X8_chain {d : Nat} : Cal yX8_chain cX8_chain 3 (some .int) (rmD d) 2 := ⟨gtbl_of (List.mem_of_getElem? (i := 528) (by decide +kernel)) (by decide +kernel), gtbl_of (List.mem_of_getElem? (i := 75) (by decide +kernel)) (by decide +kernel), by decide +kernel, rfl, rfl⟩
theorem im_X8_chain : Cond.instanceMethod yX8_chain ∈ gtbl := gtbl_of (List.mem_of_getElem? (i := 526) (by decide +kernel)) (by decide +kernel)
theorem se_X8_chain : Cond.selects RX8 yX8_chain yX8_chain ∈ gtbl := gtbl_of (by decide +kernel) (by decide +kernel)
theorem lk_L_63 : Cond.methodLink RL 63 yX9_chain ∈ gtbl := gtbl_of (List.mem_of_getElem? (i := 1034) (by decide +kernel)) (by decide +kernel)
theorem cal_X9_chain {d : Nat} : Cal yX9_chain cX9_chain 3 (some .int) (rmD d) 2 := ⟨gtbl_of (List.mem_of_getElem? (i := 1037) (by decide +kernel)) (by decide +kernel), gtbl_of (List.mem_of_getElem? (i := 84) (by decide +kernel)) (by decide +kernel), by decide +kernel, rfl, rfl⟩
theorem im_X9_chain : Cond.instanceMethod yX9_chain ∈ gtbl := gtbl_of (List.mem_of_getElem? (i := 1035) (by decide +kernel)) (by decide +kernel)
theorem se_X9_chain : Cond.selects RX9 yX9_chain yX9_chain ∈ gtbl := gtbl_of (by decide +kernel) (by decide +kernel)
theorem lk_L_64 : Cond.methodLink RL 64 yX8_root ∈ gtbl := gtbl_of (List.mem_of_getElem? (i := 537) (by decide +kernel)) (by decide +kernel)
theorem cal_X8_root {d : Nat} : Cal yX8_root cX8_root 3 (some .int) (rmD d) 2 := ⟨gtbl_of (List.mem_of_getElem? (i := 540) (by decide +kernel)) (by decide +kernel), gtbl_of (List.mem_of_getElem? (i := 75) (by decide +kernel)) (by decide +kernel), by decide +kernel, rfl, rfl⟩
theorem im_X8_root : Cond.instanceMethod yX8_root ∈ gtbl := gtbl_of (List.mem_of_getElem? (i := 538) (by decide +kernel)) (by decide +kernel)
theorem se_X8_root : Cond.selects RX8 yX8_root yX8_root ∈ gtbl := gtbl_of (by decide +kernel) (by decide +kernel)
theorem lk_L_67 : Cond.methodLink RL 67 yX9_root ∈ gtbl := gtbl_of (List.mem_of_getElem? (i := 1039) (by decide +kernel)) (by decide +kernel)
theorem cal_X9_root {d : Nat} : Cal yX9_root cX9_root 3 (some .int) (rmD d) 2 := ⟨gtbl_of (List.mem_of_getElem? (i := 1042) (by decide +kernel)) (by decide +kernel), gtbl_of (List.mem_of_getElem? (i := 84) (by decide +kernel)) (by decide +kernel), by decide +kernel, rfl, rfl⟩
theorem im_X9_root : Cond.instanceMethod yX9_root ∈ gtbl := gtbl_of (List.mem_of_getElem? (i := 1040) (by decide +kernel)) (by decide +kernel)
theorem se_X9_root : Cond.selects RX9 yX9_root yX9_root ∈ gtbl := gtbl_of (by decide +kernel) (by decide +kernel)
theorem lk_L_68 : Cond.methodLink RL 68 yX8_path ∈ gtbl := gtbl_of (List.mem_of_getElem? (i := 550) (by decide +kernel)) (by decide +kernel)
theorem cal_X8_path {d : Nat} : Cal yX8_path cX8_path 3 (some .int) (rmD d) 2 := ⟨gtbl_of (List.mem_of_getElem? (i := 553) (by decide +kernel)) (by decide +kernel), gtbl_of (List.mem_of_getElem? (i := 75) (by decide +kernel)) (by decide +kernel), by decide +kernel, rfl, rfl⟩
theorem im_X8_path : Cond.instanceMethod yX8_path ∈ gtbl := gtbl_of (List.mem_of_getElem? (i := 551) (by decide +kernel)) (by decide +kernel)
theorem se_X8_path : Cond.selects RX8 yX8_path yX8_path ∈ gtbl := gtbl_of (by decide +kernel) (by decide +kernel)
theorem lk_L_71 : Cond.methodLink RL 71 yX9_path ∈ gtbl := gtbl_of (List.mem_of_getElem? (i := 1059) (by decide +kernel)) (by decide +kernel)
theorem cal_X9_path {d : Nat} : Cal yX9_path cX9_path 8 (some .int) (rmD d) 2 := ⟨gtbl_of (List.mem_of_getElem? (i := 1062) (by decide +kernel)) (by decide +kernel), gtbl_of (List.mem_of_getElem? (i := 84) (by decide +kernel)) (by decide +kernel), by decide +kernel, rfl, rfl⟩
theorem im_X9_path : Cond.instanceMethod yX9_path ∈ gtbl := gtbl_of (List.mem_of_getElem? (i := 1060) (by decide +kernel)) (by decide +kernel)
theorem se_X9_path : Cond.selects RX9 yX9_path yX9_path ∈ gtbl := gtbl_of (by decide +kernel) (by decide +kernel)
theorem lk_L_72 : Cond.methodLink RL 72 yX8_steps ∈ gtbl := gtbl_of (List.mem_of_getElem? (i := 570) (by decide +kernel)) (by decide +kernel)
theorem cal_X8_steps {d : Nat} : Cal yX8_steps cX8_steps 3 (some .int) (rmD d) 2 := ⟨gtbl_of (List.mem_of_getElem? (i := 573) (by decide +kernel)) (by decide +kernel), gtbl_of (List.mem_of_getElem? (i := 75) (by decide +kernel)) (by decide +kernel), by decide +kernel, rfl, rfl⟩
theorem im_X8_steps : Cond.instanceMethod yX8_steps ∈ gtbl := gtbl_of (List.mem_of_getElem? (i := 571) (by decide +kernel)) (by decide +kernel)
theorem se_X8_steps : Cond.selects RX8 yX8_steps yX8_steps ∈ gtbl := gtbl_of (by decide +kernel) (by decide +kernel)
theorem lk_L_75 : Cond.methodLink RL 75 yX9_steps ∈ gtbl := gtbl_of (List.mem_of_getElem? (i := 1070) (by decide +kernel)) (by decide +kernel)
theorem cal_X9_steps {d : Nat} : Cal yX9_steps cX9_steps 10 (some .int) (rmD d) 2 := ⟨gtbl_of (List.mem_of_getElem? (i := 1073) (by decide +kernel)) (by decide +kernel), gtbl_of (List.mem_of_getElem? (i := 84) (by decide +kernel)) (by decide +kernel), by decide +kernel, rfl, rfl⟩
theorem im_X9_steps : Cond.instanceMethod yX9_steps ∈ gtbl := gtbl_of (List.mem_of_getElem? (i := 1071) (by decide +kernel)) (by decide +kernel)
theorem se_X9_steps : Cond.selects RX9 yX9_steps yX9_steps ∈ gtbl := gtbl_of (by decide +kernel) (by decide +kernel)
theorem lk_L_76 : Cond.methodLink RL 76 yX8_proof ∈ gtbl := gtbl_of (List.mem_of_getElem? (i := 578) (by decide +kernel)) (by decide +kernel)
theorem cal_X8_proof {d : Nat} : Cal yX8_proof cX8_proof 3 (some .int) (rmD d) 2 := ⟨gtbl_of (List.mem_of_getElem? (i := 581) (by decide +kernel)) (by decide +kernel), gtbl_of (List.mem_of_getElem? (i := 75) (by decide +kernel)) (by decide +kernel), by decide +kernel, rfl, rfl⟩
theorem im_X8_proof : Cond.instanceMethod yX8_proof ∈ gtbl := gtbl_of (List.mem_of_getElem? (i := 579) (by decide +kernel)) (by decide +kernel)
theorem se_X8_proof : Cond.selects RX8 yX8_proof yX8_proof ∈ gtbl := gtbl_of (by decide +kernel) (by decide +kernel)
theorem lk_L_79 : Cond.methodLink RL 79 yX9_proof ∈ gtbl := gtbl_of (List.mem_of_getElem? (i := 1074) (by decide +kernel)) (by decide +kernel)
theorem cal_X9_proof {d : Nat} : Cal yX9_proof cX9_proof 3 (some .int) (rmD d) 2 := ⟨gtbl_of (List.mem_of_getElem? (i := 1077) (by decide +kernel)) (by decide +kernel), gtbl_of (List.mem_of_getElem? (i := 84) (by decide +kernel)) (by decide +kernel), by decide +kernel, rfl, rfl⟩
theorem im_X9_proof : Cond.instanceMethod yX9_proof ∈ gtbl := gtbl_of (List.mem_of_getElem? (i := 1075) (by decide +kernel)) (by decide +kernel)
theorem se_X9_proof : Cond.selects RX9 yX9_proof yX9_proof ∈ gtbl := gtbl_of (by decide +kernel) (by decide +kernel)
theorem lk_L_80 : Cond.methodLink RL 80 yX8_spoilProof ∈ gtbl := gtbl_of (List.mem_of_getElem? (i := 586) (by decide +kernel)) (by decide +kernel)
theorem cal_X8_spoilProof {d : Nat} : Cal yX8_spoilProof cX8_spoilProof 4 (some .int) (rmD d) 3 := ⟨gtbl_of (List.mem_of_getElem? (i := 589) (by decide +kernel)) (by decide +kernel), gtbl_of (List.mem_of_getElem? (i := 75) (by decide +kernel)) (by decide +kernel), by decide +kernel, rfl, rfl⟩
theorem im_X8_spoilProof : Cond.instanceMethod yX8_spoilProof ∈ gtbl := gtbl_of (List.mem_of_getElem? (i := 587) (by decide +kernel)) (by decide +kernel)
theorem se_X8_spoilProof : Cond.selects RX8 yX8_spoilProof yX8_spoilProof ∈ gtbl := gtbl_of (by decide +kernel) (by decide +kernel)
theorem lk_L_83 : Cond.methodLink RL 83 yX9_spoilProof ∈ gtbl := gtbl_of (List.mem_of_getElem? (i := 1078) (by decide +kernel)) (by decide +kernel)
theorem cal_X9_spoilProof {d : Nat} : Cal yX9_spoilProof cX9_spoilProof 5 (some .int) (rmD d) 3 := ⟨gtbl_of (List.mem_of_getElem? (i := 1081) (by decide +kernel)) (by decide +kernel), gtbl_of (List.mem_of_getElem? (i := 84) (by decide +kernel)) (by decide +kernel), by decide +kernel, rfl, rfl⟩
theorem im_X9_spoilProof : Cond.instanceMethod yX9_spoilProof ∈ gtbl := gtbl_of (List.mem_of_getElem? (i := 1079) (by decide +kernel)) (by decide +kernel)
theorem se_X9_spoilProof : Cond.selects RX9 yX9_spoilProof yX9_spoilProof ∈ gtbl := gtbl_of (by decide +kernel) (by decide +kernel)
theorem lk_L_84 : Cond.methodLink RL 84 yX8_cutProof ∈ gtbl := gtbl_of (List.mem_of_getElem? (i := 598) (by decide +kernel)) (by decide +kernel)
theorem cal_X8_cutProof {d : Nat} : Cal yX8_cutProof cX8_cutProof 3 (some .int) (rmD d) 1 := ⟨gtbl_of (List.mem_of_getElem? (i := 601) (by decide +kernel)) (by decide +kernel), gtbl_of (List.mem_of_getElem? (i := 75) (by decide +kernel)) (by decide +kernel), by decide +kernel, rfl, rfl⟩
theorem im_X8_cutProof : Cond.instanceMethod yX8_cutProof ∈ gtbl := gtbl_of (List.mem_of_getElem? (i := 599) (by decide +kernel)) (by decide +kernel)
theorem se_X8_cutProof : Cond.selects RX8 yX8_cutProof yX8_cutProof ∈ gtbl := gtbl_of (by decide +kernel) (by decide +kernel)
theorem lk_L_87 : Cond.methodLink RL 87 yX9_cutProof ∈ gtbl := gtbl_of (List.mem_of_getElem? (i := 1083) (by decide +kernel)) (by decide +kernel)
theorem cal_X9_cutProof {d : Nat} : Cal yX9_cutProof cX9_cutProof 3 (some .int) (rmD d) 1 := ⟨gtbl_of (List.mem_of_getElem? (i := 1086) (by decide +kernel)) (by decide +kernel), gtbl_of (List.mem_of_getElem? (i := 84) (by decide +kernel)) (by decide +kernel), by decide +kernel, rfl, rfl⟩
theorem im_X9_cutProof : Cond.instanceMethod yX9_cutProof ∈ gtbl := gtbl_of (List.mem_of_getElem? (i := 1084) (by decide +kernel)) (by decide +kernel)
theorem se_X9_cutProof : Cond.selects RX9 yX9_cutProof yX9_cutProof ∈ gtbl := gtbl_of (by decide +kernel) (by decide +kernel)
theorem lk_L_88 : Cond.methodLink RL 88 yX8_keep ∈ gtbl := gtbl_of (List.mem_of_getElem? (i := 602) (by decide +kernel)) (by decide +kernel)
theorem cal_X8_keep {d : Nat} : Cal yX8_keep cX8_keep 3 (some .int) (rmD d) 2 := ⟨gtbl_of (List.mem_of_getElem? (i := 605) (by decide +kernel)) (by decide +kernel), gtbl_of (List.mem_of_getElem? (i := 75) (by decide +kernel)) (by decide +kernel), by decide +kernel, rfl, rfl⟩
theorem im_X8_keep : Cond.instanceMethod yX8_keep ∈ gtbl := gtbl_of (List.mem_of_getElem? (i := 603) (by decide +kernel)) (by decide +kernel)
theorem se_X8_keep : Cond.selects RX8 yX8_keep yX8_keep ∈ gtbl := gtbl_of (by decide +kernel) (by decide +kernel)
theorem lk_L_91 : Cond.methodLink RL 91 yX9_keep ∈ gtbl := gtbl_of (List.mem_of_getElem? (i := 1087) (by decide +kernel)) (by decide +kernel)
theorem cal_X9_keep {d : Nat} : Cal yX9_keep cX9_keep 3 (some .int) (rmD d) 2 := ⟨gtbl_of (List.mem_of_getElem? (i := 1090) (by decide +kernel)) (by decide +kernel), gtbl_of (List.mem_of_getElem? (i := 84) (by decide +kernel)) (by decide +kernel), by decide +kernel, rfl, rfl⟩
theorem im_X9_keep : Cond.instanceMethod yX9_keep ∈ gtbl := gtbl_of (List.mem_of_getElem? (i := 1088) (by decide +kernel)) (by decide +kernel)
theorem se_X9_keep : Cond.selects RX9 yX9_keep yX9_keep ∈ gtbl := gtbl_of (by decide +kernel) (by decide +kernel)
theorem lk_L_92 : Cond.methodLink RL 92 yX8_kept ∈ gtbl := gtbl_of (List.mem_of_getElem? (i := 609) (by decide +kernel)) (by decide +kernel)
theorem cal_X8_kept {d : Nat} : Cal yX8_kept cX8_kept 3 (some .int) (rmD d) 2 := ⟨gtbl_of (List.mem_of_getElem? (i := 612) (by decide +kernel)) (by decide +kernel), gtbl_of (List.mem_of_getElem? (i := 75) (by decide +kernel)) (by decide +kernel), by decide +kernel, rfl, rfl⟩
theorem im_X8_kept : Cond.instanceMethod yX8_kept ∈ gtbl := gtbl_of (List.mem_of_getElem? (i := 610) (by decide +kernel)) (by decide +kernel)
theorem se_X8_kept : Cond.selects RX8 yX8_kept yX8_kept ∈ gtbl := gtbl_of (by decide +kernel) (by decide +kernel)
theorem lk_L_95 : Cond.methodLink RL 95 yX9_kept ∈ gtbl := gtbl_of (List.mem_of_getElem? (i := 1091) (by decide +kernel)) (by decide +kernel)
theorem cal_X9_kept {d : Nat} : Cal yX9_kept cX9_kept 3 (some .int) (rmD d) 2 := ⟨gtbl_of (List.mem_of_getElem? (i := 1094) (by decide +kernel)) (by decide +kernel), gtbl_of (List.mem_of_getElem? (i := 84) (by decide +kernel)) (by decide +kernel), by decide +kernel, rfl, rfl⟩
theorem im_X9_kept : Cond.instanceMethod yX9_kept ∈ gtbl := gtbl_of (List.mem_of_getElem? (i := 1092) (by decide +kernel)) (by decide +kernel)
theorem se_X9_kept : Cond.selects RX9 yX9_kept yX9_kept ∈ gtbl := gtbl_of (by decide +kernel) (by decide +kernel)
theorem lk_L_96 : Cond.methodLink RL 96 yX8_spoilKept ∈ gtbl := gtbl_of (List.mem_of_getElem? (i := 613) (by decide +kernel)) (by decide +kernel)
theorem cal_X8_spoilKept {d : Nat} : Cal yX8_spoilKept cX8_spoilKept 4 (some .int) (rmD d) 3 := ⟨gtbl_of (List.mem_of_getElem? (i := 616) (by decide +kernel)) (by decide +kernel), gtbl_of (List.mem_of_getElem? (i := 75) (by decide +kernel)) (by decide +kernel), by decide +kernel, rfl, rfl⟩
theorem im_X8_spoilKept : Cond.instanceMethod yX8_spoilKept ∈ gtbl := gtbl_of (List.mem_of_getElem? (i := 614) (by decide +kernel)) (by decide +kernel)
theorem se_X8_spoilKept : Cond.selects RX8 yX8_spoilKept yX8_spoilKept ∈ gtbl := gtbl_of (by decide +kernel) (by decide +kernel)
theorem lk_L_99 : Cond.methodLink RL 99 yX9_spoilKept ∈ gtbl := gtbl_of (List.mem_of_getElem? (i := 1095) (by decide +kernel)) (by decide +kernel)
theorem cal_X9_spoilKept {d : Nat} : Cal yX9_spoilKept cX9_spoilKept 5 (some .int) (rmD d) 3 := ⟨gtbl_of (List.mem_of_getElem? (i := 1098) (by decide +kernel)) (by decide +kernel), gtbl_of (List.mem_of_getElem? (i := 84) (by decide +kernel)) (by decide +kernel), by decide +kernel, rfl, rfl⟩
theorem im_X9_spoilKept : Cond.instanceMethod yX9_spoilKept ∈ gtbl := gtbl_of (List.mem_of_getElem? (i := 1096) (by decide +kernel)) (by decide +kernel)
theorem se_X9_spoilKept : Cond.selects RX9 yX9_spoilKept yX9_spoilKept ∈ gtbl := gtbl_of (by decide +kernel) (by decide +kernel)
theorem lk_L_100 : Cond.methodLink RL 100 yX8_judgePath ∈ gtbl := gtbl_of (List.mem_of_getElem? (i := 617) (by decide +kernel)) (by decide +kernel)
theorem cal_X8_judgePath {d : Nat} : Cal yX8_judgePath cX8_judgePath 5 (some .int) (rmD d) 4 := ⟨gtbl_of (List.mem_of_getElem? (i := 620) (by decide +kernel)) (by decide +kernel), gtbl_of (List.mem_of_getElem? (i := 75) (by decide +kernel)) (by decide +kernel), by decide +kernel, rfl, rfl⟩
theorem im_X8_judgePath : Cond.instanceMethod yX8_judgePath ∈ gtbl := gtbl_of (List.mem_of_getElem? (i := 618) (by decide +kernel)) (by decide +kernel)
theorem se_X8_judgePath : Cond.selects RX8 yX8_judgePath yX8_judgePath ∈ gtbl := gtbl_of (by decide +kernel) (by decide +kernel)
theorem lk_L_104 : Cond.methodLink RL 104 yX9_judgePath ∈ gtbl := gtbl_of (List.mem_of_getElem? (i := 1099) (by decide +kernel)) (by decide +kernel)
theorem cal_X9_judgePath {d : Nat} : Cal yX9_judgePath cX9_judgePath 8 (some .int) (rmD d) 4 := ⟨gtbl_of (List.mem_of_getElem? (i := 1102) (by decide +kernel)) (by decide +kernel), gtbl_of (List.mem_of_getElem? (i := 84) (by decide +kernel)) (by decide +kernel), by decide +kernel, rfl, rfl⟩
theorem im_X9_judgePath : Cond.instanceMethod yX9_judgePath ∈ gtbl := gtbl_of (List.mem_of_getElem? (i := 1100) (by decide +kernel)) (by decide +kernel)
theorem se_X9_judgePath : Cond.selects RX9 yX9_judgePath yX9_judgePath ∈ gtbl := gtbl_of (by decide +kernel) (by decide +kernel)
theorem lk_L_105 : Cond.methodLink RL 105 yX8_judgeSteps ∈ gtbl := gtbl_of (List.mem_of_getElem? (i := 651) (by decide +kernel)) (by decide +kernel)
theorem cal_X8_judgeSteps {d : Nat} : Cal yX8_judgeSteps cX8_judgeSteps 5 (some .int) (rmD d) 4 := ⟨gtbl_of (List.mem_of_getElem? (i := 654) (by decide +kernel)) (by decide +kernel), gtbl_of (List.mem_of_getElem? (i := 75) (by decide +kernel)) (by decide +kernel), by decide +kernel, rfl, rfl⟩
theorem im_X8_judgeSteps : Cond.instanceMethod yX8_judgeSteps ∈ gtbl := gtbl_of (List.mem_of_getElem? (i := 652) (by decide +kernel)) (by decide +kernel)
theorem se_X8_judgeSteps : Cond.selects RX8 yX8_judgeSteps yX8_judgeSteps ∈ gtbl := gtbl_of (by decide +kernel) (by decide +kernel)
theorem lk_L_108 : Cond.methodLink RL 108 yX9_judgeSteps ∈ gtbl := gtbl_of (List.mem_of_getElem? (i := 1107) (by decide +kernel)) (by decide +kernel)
theorem cal_X9_judgeSteps {d : Nat} : Cal yX9_judgeSteps cX9_judgeSteps 10 (some .int) (rmD d) 4 := ⟨gtbl_of (List.mem_of_getElem? (i := 1110) (by decide +kernel)) (by decide +kernel), gtbl_of (List.mem_of_getElem? (i := 84) (by decide +kernel)) (by decide +kernel), by decide +kernel, rfl, rfl⟩
theorem im_X9_judgeSteps : Cond.instanceMethod yX9_judgeSteps ∈ gtbl := gtbl_of (List.mem_of_getElem? (i := 1108) (by decide +kernel)) (by decide +kernel)
theorem se_X9_judgeSteps : Cond.selects RX9 yX9_judgeSteps yX9_judgeSteps ∈ gtbl := gtbl_of (by decide +kernel) (by decide +kernel)
theorem lk_L_109 : Cond.methodLink RL 109 yX8_sync ∈ gtbl := gtbl_of (List.mem_of_getElem? (i := 663) (by decide +kernel)) (by decide +kernel)
theorem cal_X8_sync {d : Nat} : Cal yX8_sync cX8_sync 1 (some .int) (rmD d) 0 := ⟨gtbl_of (List.mem_of_getElem? (i := 666) (by decide +kernel)) (by decide +kernel), gtbl_of (List.mem_of_getElem? (i := 75) (by decide +kernel)) (by decide +kernel), by decide +kernel, rfl, rfl⟩
theorem im_X8_sync : Cond.instanceMethod yX8_sync ∈ gtbl := gtbl_of (List.mem_of_getElem? (i := 664) (by decide +kernel)) (by decide +kernel)
theorem se_X8_sync : Cond.selects RX8 yX8_sync yX8_sync ∈ gtbl := gtbl_of (by decide +kernel) (by decide +kernel)
theorem lk_L_113 : Cond.methodLink RL 113 yX9_sync ∈ gtbl := gtbl_of (List.mem_of_getElem? (i := 1111) (by decide +kernel)) (by decide +kernel)
theorem cal_X9_sync {d : Nat} : Cal yX9_sync cX9_sync 1 (some .int) (rmD d) 0 := ⟨gtbl_of (List.mem_of_getElem? (i := 1114) (by decide +kernel)) (by decide +kernel), gtbl_of (List.mem_of_getElem? (i := 84) (by decide +kernel)) (by decide +kernel), by decide +kernel, rfl, rfl⟩
theorem im_X9_sync : Cond.instanceMethod yX9_sync ∈ gtbl := gtbl_of (List.mem_of_getElem? (i := 1112) (by decide +kernel)) (by decide +kernel)
theorem se_X9_sync : Cond.selects RX9 yX9_sync yX9_sync ∈ gtbl := gtbl_of (by decide +kernel) (by decide +kernel)
theorem lk_L_114 : Cond.methodLink RL 114 yX8_cut ∈ gtbl := gtbl_of (List.mem_of_getElem? (i := 667) (by decide +kernel)) (by decide +kernel)
theorem cal_X8_cut {d : Nat} : Cal yX8_cut cX8_cut 2 (some .int) (rmD d) 1 := ⟨gtbl_of (List.mem_of_getElem? (i := 670) (by decide +kernel)) (by decide +kernel), gtbl_of (List.mem_of_getElem? (i := 75) (by decide +kernel)) (by decide +kernel), by decide +kernel, rfl, rfl⟩
theorem im_X8_cut : Cond.instanceMethod yX8_cut ∈ gtbl := gtbl_of (List.mem_of_getElem? (i := 668) (by decide +kernel)) (by decide +kernel)
theorem se_X8_cut : Cond.selects RX8 yX8_cut yX8_cut ∈ gtbl := gtbl_of (by decide +kernel) (by decide +kernel)
theorem lk_L_117 : Cond.methodLink RL 117 yX9_cut ∈ gtbl := gtbl_of (List.mem_of_getElem? (i := 1115) (by decide +kernel)) (by decide +kernel)
theorem cal_X9_cut {d : Nat} : Cal yX9_cut cX9_cut 4 (some .int) (rmD d) 1 := ⟨gtbl_of (List.mem_of_getElem? (i := 1118) (by decide +kernel)) (by decide +kernel), gtbl_of (List.mem_of_getElem? (i := 84) (by decide +kernel)) (by decide +kernel), by decide +kernel, rfl, rfl⟩
theorem im_X9_cut : Cond.instanceMethod yX9_cut ∈ gtbl := gtbl_of (List.mem_of_getElem? (i := 1116) (by decide +kernel)) (by decide +kernel)
theorem se_X9_cut : Cond.selects RX9 yX9_cut yX9_cut ∈ gtbl := gtbl_of (by decide +kernel) (by decide +kernel)
theorem lk_L_118 : Cond.methodLink RL 118 yX8_open ∈ gtbl := gtbl_of (List.mem_of_getElem? (i := 682) (by decide +kernel)) (by decide +kernel)
theorem cal_X8_open {d : Nat} : Cal yX8_open cX8_open 2 (some .int) (rmD d) 0 := ⟨gtbl_of (List.mem_of_getElem? (i := 685) (by decide +kernel)) (by decide +kernel), gtbl_of (List.mem_of_getElem? (i := 75) (by decide +kernel)) (by decide +kernel), by decide +kernel, rfl, rfl⟩
theorem im_X8_open : Cond.instanceMethod yX8_open ∈ gtbl := gtbl_of (List.mem_of_getElem? (i := 683) (by decide +kernel)) (by decide +kernel)
theorem se_X8_open : Cond.selects RX8 yX8_open yX8_open ∈ gtbl := gtbl_of (by decide +kernel) (by decide +kernel)
theorem lk_L_121 : Cond.methodLink RL 121 yX9_open ∈ gtbl := gtbl_of (List.mem_of_getElem? (i := 1120) (by decide +kernel)) (by decide +kernel)
theorem cal_X9_open {d : Nat} : Cal yX9_open cX9_open 2 (some .int) (rmD d) 0 := ⟨gtbl_of (List.mem_of_getElem? (i := 1123) (by decide +kernel)) (by decide +kernel), gtbl_of (List.mem_of_getElem? (i := 84) (by decide +kernel)) (by decide +kernel), by decide +kernel, rfl, rfl⟩
theorem im_X9_open : Cond.instanceMethod yX9_open ∈ gtbl := gtbl_of (List.mem_of_getElem? (i := 1121) (by decide +kernel)) (by decide +kernel)
theorem se_X9_open : Cond.selects RX9 yX9_open yX9_open ∈ gtbl := gtbl_of (by decide +kernel) (by decide +kernel)
theorem lk_L_122 : Cond.methodLink RL 122 yX8_disk ∈ gtbl := gtbl_of (List.mem_of_getElem? (i := 699) (by decide +kernel)) (by decide +kernel)
theorem cal_X8_disk {d : Nat} : Cal yX8_disk cX8_disk 2 (some .int) (rmD d) 1 := ⟨gtbl_of (List.mem_of_getElem? (i := 702) (by decide +kernel)) (by decide +kernel), gtbl_of (List.mem_of_getElem? (i := 75) (by decide +kernel)) (by decide +kernel), by decide +kernel, rfl, rfl⟩
theorem im_X8_disk : Cond.instanceMethod yX8_disk ∈ gtbl := gtbl_of (List.mem_of_getElem? (i := 700) (by decide +kernel)) (by decide +kernel)
theorem se_X8_disk : Cond.selects RX8 yX8_disk yX8_disk ∈ gtbl := gtbl_of (by decide +kernel) (by decide +kernel)
theorem lk_L_125 : Cond.methodLink RL 125 yX9_disk ∈ gtbl := gtbl_of (List.mem_of_getElem? (i := 1128) (by decide +kernel)) (by decide +kernel)
theorem cal_X9_disk {d : Nat} : Cal yX9_disk cX9_disk 2 (some .int) (rmD d) 1 := ⟨gtbl_of (List.mem_of_getElem? (i := 1131) (by decide +kernel)) (by decide +kernel), gtbl_of (List.mem_of_getElem? (i := 84) (by decide +kernel)) (by decide +kernel), by decide +kernel, rfl, rfl⟩
theorem im_X9_disk : Cond.instanceMethod yX9_disk ∈ gtbl := gtbl_of (List.mem_of_getElem? (i := 1129) (by decide +kernel)) (by decide +kernel)
theorem se_X9_disk : Cond.selects RX9 yX9_disk yX9_disk ∈ gtbl := gtbl_of (by decide +kernel) (by decide +kernel)
theorem lk_L_126 : Cond.methodLink RL 126 yX8_spoil ∈ gtbl := gtbl_of (List.mem_of_getElem? (i := 703) (by decide +kernel)) (by decide +kernel)
theorem cal_X8_spoil {d : Nat} : Cal yX8_spoil cX8_spoil 4 (some .int) (rmD d) 2 := ⟨gtbl_of (List.mem_of_getElem? (i := 706) (by decide +kernel)) (by decide +kernel), gtbl_of (List.mem_of_getElem? (i := 75) (by decide +kernel)) (by decide +kernel), by decide +kernel, rfl, rfl⟩
theorem im_X8_spoil : Cond.instanceMethod yX8_spoil ∈ gtbl := gtbl_of (List.mem_of_getElem? (i := 704) (by decide +kernel)) (by decide +kernel)
theorem se_X8_spoil : Cond.selects RX8 yX8_spoil yX8_spoil ∈ gtbl := gtbl_of (by decide +kernel) (by decide +kernel)
theorem lk_L_129 : Cond.methodLink RL 129 yX9_spoil ∈ gtbl := gtbl_of (List.mem_of_getElem? (i := 1133) (by decide +kernel)) (by decide +kernel)
theorem cal_X9_spoil {d : Nat} : Cal yX9_spoil cX9_spoil 4 (some .int) (rmD d) 2 := ⟨gtbl_of (List.mem_of_getElem? (i := 1136) (by decide +kernel)) (by decide +kernel), gtbl_of (List.mem_of_getElem? (i := 84) (by decide +kernel)) (by decide +kernel), by decide +kernel, rfl, rfl⟩
theorem im_X9_spoil : Cond.instanceMethod yX9_spoil ∈ gtbl := gtbl_of (List.mem_of_getElem? (i := 1134) (by decide +kernel)) (by decide +kernel)
theorem se_X9_spoil : Cond.selects RX9 yX9_spoil yX9_spoil ∈ gtbl := gtbl_of (by decide +kernel) (by decide +kernel)
theorem lk_L_130 : Cond.methodLink RL 130 yX8_audit ∈ gtbl := gtbl_of (List.mem_of_getElem? (i := 707) (by decide +kernel)) (by decide +kernel)
theorem cal_X8_audit {d : Nat} : Cal yX8_audit cX8_audit 2 (some .int) (rmD d) 0 := ⟨gtbl_of (List.mem_of_getElem? (i := 710) (by decide +kernel)) (by decide +kernel), gtbl_of (List.mem_of_getElem? (i := 75) (by decide +kernel)) (by decide +kernel), by decide +kernel, rfl, rfl⟩
theorem im_X8_audit : Cond.instanceMethod yX8_audit ∈ gtbl := gtbl_of (List.mem_of_getElem? (i := 708) (by decide +kernel)) (by decide +kernel)
theorem se_X8_audit : Cond.selects RX8 yX8_audit yX8_audit ∈ gtbl := gtbl_of (by decide +kernel) (by decide +kernel)
theorem lk_L_133 : Cond.methodLink RL 133 yX9_audit ∈ gtbl := gtbl_of (List.mem_of_getElem? (i := 1137) (by decide +kernel)) (by decide +kernel)
theorem cal_X9_audit {d : Nat} : Cal yX9_audit cX9_audit 4 (some .int) (rmD d) 0 := ⟨gtbl_of (List.mem_of_getElem? (i := 1140) (by decide +kernel)) (by decide +kernel), gtbl_of (List.mem_of_getElem? (i := 84) (by decide +kernel)) (by decide +kernel), by decide +kernel, rfl, rfl⟩
theorem im_X9_audit : Cond.instanceMethod yX9_audit ∈ gtbl := gtbl_of (List.mem_of_getElem? (i := 1138) (by decide +kernel)) (by decide +kernel)
theorem se_X9_audit : Cond.selects RX9 yX9_audit yX9_audit ∈ gtbl := gtbl_of (by decide +kernel) (by decide +kernel)
theorem lk_L_136 : Cond.methodLink RL 136 yX8_hash ∈ gtbl := gtbl_of (List.mem_of_getElem? (i := 711) (by decide +kernel)) (by decide +kernel)
theorem cal_X8_hash {d : Nat} : Cal yX8_hash cX8_hash 10 (some .int) (rmD d) 4 := ⟨gtbl_of (List.mem_of_getElem? (i := 714) (by decide +kernel)) (by decide +kernel), gtbl_of (List.mem_of_getElem? (i := 75) (by decide +kernel)) (by decide +kernel), by decide +kernel, rfl, rfl⟩
theorem im_X8_hash : Cond.instanceMethod yX8_hash ∈ gtbl := gtbl_of (List.mem_of_getElem? (i := 712) (by decide +kernel)) (by decide +kernel)
theorem se_X8_hash : Cond.selects RX8 yX8_hash yX8_hash ∈ gtbl := gtbl_of (by decide +kernel) (by decide +kernel)
theorem lk_L_140 : Cond.methodLink RL 140 yX9_hash ∈ gtbl := gtbl_of (List.mem_of_getElem? (i := 1141) (by decide +kernel)) (by decide +kernel)
theorem cal_X9_hash {d : Nat} : Cal yX9_hash cX9_hash 8 (some .int) (rmD d) 4 := ⟨gtbl_of (List.mem_of_getElem? (i := 1144) (by decide +kernel)) (by decide +kernel), gtbl_of (List.mem_of_getElem? (i := 84) (by decide +kernel)) (by decide +kernel), by decide +kernel, rfl, rfl⟩
theorem im_X9_hash : Cond.instanceMethod yX9_hash ∈ gtbl := gtbl_of (List.mem_of_getElem? (i := 1142) (by decide +kernel)) (by decide +kernel)
theorem se_X9_hash : Cond.selects RX9 yX9_hash yX9_hash ∈ gtbl := gtbl_of (by decide +kernel) (by decide +kernel)
theorem lk_L_141 : Cond.methodLink RL 141 yX8_count ∈ gtbl := gtbl_of (List.mem_of_getElem? (i := 718) (by decide +kernel)) (by decide +kernel)
theorem lk_L_144 : Cond.methodLink RL 144 yX9_count ∈ gtbl := gtbl_of (List.mem_of_getElem? (i := 1145) (by decide +kernel)) (by decide +kernel)
theorem cal_X9_count {d : Nat} : Cal yX9_count cX9_count 2 (some .int) (rmD d) 1 := ⟨gtbl_of (List.mem_of_getElem? (i := 1148) (by decide +kernel)) (by decide +kernel), gtbl_of (List.mem_of_getElem? (i := 84) (by decide +kernel)) (by decide +kernel), by decide +kernel, rfl, rfl⟩
theorem im_X9_count : Cond.instanceMethod yX9_count ∈ gtbl := gtbl_of (List.mem_of_getElem? (i := 1146) (by decide +kernel)) (by decide +kernel)
theorem se_X9_count : Cond.selects RX9 yX9_count yX9_count ∈ gtbl := gtbl_of (by decide +kernel) (by decide +kernel)
theorem lk_L_145 : Cond.methodLink RL 145 yX8_digest ∈ gtbl := gtbl_of (List.mem_of_getElem? (i := 722) (by decide +kernel)) (by decide +kernel)
theorem cal_X8_digest {d : Nat} : Cal yX8_digest cX8_digest 5 (some .long) (rmD d) 0 := ⟨gtbl_of (List.mem_of_getElem? (i := 725) (by decide +kernel)) (by decide +kernel), gtbl_of (List.mem_of_getElem? (i := 75) (by decide +kernel)) (by decide +kernel), by decide +kernel, rfl, rfl⟩
theorem im_X8_digest : Cond.instanceMethod yX8_digest ∈ gtbl := gtbl_of (List.mem_of_getElem? (i := 723) (by decide +kernel)) (by decide +kernel)
theorem se_X8_digest : Cond.selects RX8 yX8_digest yX8_digest ∈ gtbl := gtbl_of (by decide +kernel) (by decide +kernel)
theorem lk_L_149 : Cond.methodLink RL 149 yX9_digest ∈ gtbl := gtbl_of (List.mem_of_getElem? (i := 1149) (by decide +kernel)) (by decide +kernel)
theorem cal_X9_digest {d : Nat} : Cal yX9_digest cX9_digest 5 (some .long) (rmD d) 0 := ⟨gtbl_of (List.mem_of_getElem? (i := 1152) (by decide +kernel)) (by decide +kernel), gtbl_of (List.mem_of_getElem? (i := 84) (by decide +kernel)) (by decide +kernel), by decide +kernel, rfl, rfl⟩
theorem im_X9_digest : Cond.instanceMethod yX9_digest ∈ gtbl := gtbl_of (List.mem_of_getElem? (i := 1150) (by decide +kernel)) (by decide +kernel)
theorem se_X9_digest : Cond.selects RX9 yX9_digest yX9_digest ∈ gtbl := gtbl_of (by decide +kernel) (by decide +kernel)
theorem lk_X9_154 : Cond.methodLink RX9 154 yX9_put ∈ gtbl := gtbl_of (List.mem_of_getElem? (i := 957) (by decide +kernel)) (by decide +kernel)
theorem cal_X9_put {d : Nat} : Cal yX9_put cX9_put 2 none (rmD d) 1 := ⟨gtbl_of (List.mem_of_getElem? (i := 960) (by decide +kernel)) (by decide +kernel), gtbl_of (List.mem_of_getElem? (i := 84) (by decide +kernel)) (by decide +kernel), by decide +kernel, rfl, rfl⟩
theorem im_X9_put : Cond.instanceMethod yX9_put ∈ gtbl := gtbl_of (List.mem_of_getElem? (i := 959) (by decide +kernel)) (by decide +kernel)
theorem se_X9_put : Cond.selects RX9 yX9_put yX9_put ∈ gtbl := gtbl_of (by decide +kernel) (by decide +kernel)
theorem lk_X9_158 : Cond.methodLink RX9 158 yX9_turn ∈ gtbl := gtbl_of (List.mem_of_getElem? (i := 977) (by decide +kernel)) (by decide +kernel)
theorem cal_X9_turn {d : Nat} : Cal yX9_turn cX9_turn 2 (some .int) (rmD d) 2 := ⟨gtbl_of (List.mem_of_getElem? (i := 979) (by decide +kernel)) (by decide +kernel), gtbl_of (List.mem_of_getElem? (i := 84) (by decide +kernel)) (by decide +kernel), by decide +kernel, rfl, rfl⟩
theorem st_X9_turn : Cond.static yX9_turn ∈ gtbl := gtbl_of (List.mem_of_getElem? (i := 978) (by decide +kernel)) (by decide +kernel)
theorem lk_X9_170 : Cond.methodLink RX9 170 yX9_block ∈ gtbl := gtbl_of (List.mem_of_getElem? (i := 973) (by decide +kernel)) (by decide +kernel)
theorem cal_X9_block {d : Nat} : Cal yX9_block cX9_block 13 none (rmD d) 1 := ⟨gtbl_of (List.mem_of_getElem? (i := 976) (by decide +kernel)) (by decide +kernel), gtbl_of (List.mem_of_getElem? (i := 84) (by decide +kernel)) (by decide +kernel), by decide +kernel, rfl, rfl⟩
theorem im_X9_block : Cond.instanceMethod yX9_block ∈ gtbl := gtbl_of (List.mem_of_getElem? (i := 975) (by decide +kernel)) (by decide +kernel)
theorem se_X9_block : Cond.selects RX9 yX9_block yX9_block ∈ gtbl := gtbl_of (by decide +kernel) (by decide +kernel)
theorem lk_X9_173 : Cond.methodLink RX9 173 yX9_begin ∈ gtbl := gtbl_of (List.mem_of_getElem? (i := 949) (by decide +kernel)) (by decide +kernel)
theorem cal_X9_begin {d : Nat} : Cal yX9_begin cX9_begin 1 none (rmD d) 0 := ⟨gtbl_of (List.mem_of_getElem? (i := 952) (by decide +kernel)) (by decide +kernel), gtbl_of (List.mem_of_getElem? (i := 84) (by decide +kernel)) (by decide +kernel), by decide +kernel, rfl, rfl⟩
theorem im_X9_begin : Cond.instanceMethod yX9_begin ∈ gtbl := gtbl_of (List.mem_of_getElem? (i := 951) (by decide +kernel)) (by decide +kernel)
theorem se_X9_begin : Cond.selects RX9 yX9_begin yX9_begin ∈ gtbl := gtbl_of (by decide +kernel) (by decide +kernel)
theorem lk_X9_176 : Cond.methodLink RX9 176 yX9_putAll ∈ gtbl := gtbl_of (List.mem_of_getElem? (i := 953) (by decide +kernel)) (by decide +kernel)
theorem cal_X9_putAll {d : Nat} : Cal yX9_putAll cX9_putAll 5 none (rmD d) 3 := ⟨gtbl_of (List.mem_of_getElem? (i := 956) (by decide +kernel)) (by decide +kernel), gtbl_of (List.mem_of_getElem? (i := 84) (by decide +kernel)) (by decide +kernel), by decide +kernel, rfl, rfl⟩
theorem im_X9_putAll : Cond.instanceMethod yX9_putAll ∈ gtbl := gtbl_of (List.mem_of_getElem? (i := 955) (by decide +kernel)) (by decide +kernel)
theorem se_X9_putAll : Cond.selects RX9 yX9_putAll yX9_putAll ∈ gtbl := gtbl_of (by decide +kernel) (by decide +kernel)
theorem lk_X9_180 : Cond.methodLink RX9 180 yX9_end ∈ gtbl := gtbl_of (List.mem_of_getElem? (i := 961) (by decide +kernel)) (by decide +kernel)
theorem cal_X9_end {d : Nat} : Cal yX9_end cX9_end 4 none (rmD d) 0 := ⟨gtbl_of (List.mem_of_getElem? (i := 964) (by decide +kernel)) (by decide +kernel), gtbl_of (List.mem_of_getElem? (i := 84) (by decide +kernel)) (by decide +kernel), by decide +kernel, rfl, rfl⟩
theorem im_X9_end : Cond.instanceMethod yX9_end ∈ gtbl := gtbl_of (List.mem_of_getElem? (i := 963) (by decide +kernel)) (by decide +kernel)
theorem se_X9_end : Cond.selects RX9 yX9_end yX9_end ∈ gtbl := gtbl_of (by decide +kernel) (by decide +kernel)
theorem lk_X9_185 : Cond.methodLink RX9 185 yX9_in ∈ gtbl := gtbl_of (List.mem_of_getElem? (i := 909) (by decide +kernel)) (by decide +kernel)
theorem cal_X9_in {d : Nat} : Cal yX9_in cX9_in 6 (some .boolean) (rmD d) 3 := ⟨gtbl_of (List.mem_of_getElem? (i := 911) (by decide +kernel)) (by decide +kernel), gtbl_of (List.mem_of_getElem? (i := 84) (by decide +kernel)) (by decide +kernel), by decide +kernel, rfl, rfl⟩
theorem st_X9_in : Cond.static yX9_in ∈ gtbl := gtbl_of (List.mem_of_getElem? (i := 910) (by decide +kernel)) (by decide +kernel)
theorem lk_X9_191 : Cond.methodLink RX9 191 yX9_isSubject ∈ gtbl := gtbl_of (List.mem_of_getElem? (i := 917) (by decide +kernel)) (by decide +kernel)
theorem cal_X9_isSubject {d : Nat} : Cal yX9_isSubject cX9_isSubject 1 (some .boolean) (rmD d) 1 := ⟨gtbl_of (List.mem_of_getElem? (i := 919) (by decide +kernel)) (by decide +kernel), gtbl_of (List.mem_of_getElem? (i := 84) (by decide +kernel)) (by decide +kernel), by decide +kernel, rfl, rfl⟩
theorem st_X9_isSubject : Cond.static yX9_isSubject ∈ gtbl := gtbl_of (List.mem_of_getElem? (i := 918) (by decide +kernel)) (by decide +kernel)
theorem lk_X9_213 : Cond.methodLink RX9 213 yX9_lay ∈ gtbl := gtbl_of (List.mem_of_getElem? (i := 980) (by decide +kernel)) (by decide +kernel)
theorem cal_X9_lay {d : Nat} : Cal yX9_lay cX9_lay 4 none (rmD d) 2 := ⟨gtbl_of (List.mem_of_getElem? (i := 983) (by decide +kernel)) (by decide +kernel), gtbl_of (List.mem_of_getElem? (i := 84) (by decide +kernel)) (by decide +kernel), by decide +kernel, rfl, rfl⟩
theorem im_X9_lay : Cond.instanceMethod yX9_lay ∈ gtbl := gtbl_of (List.mem_of_getElem? (i := 982) (by decide +kernel)) (by decide +kernel)
theorem se_X9_lay : Cond.selects RX9 yX9_lay yX9_lay ∈ gtbl := gtbl_of (by decide +kernel) (by decide +kernel)
theorem lk_X9_217 : Cond.methodLink RX9 217 yX9_goOn ∈ gtbl := gtbl_of (List.mem_of_getElem? (i := 945) (by decide +kernel)) (by decide +kernel)
theorem cal_X9_goOn {d : Nat} : Cal yX9_goOn cX9_goOn 2 none (rmD d) 1 := ⟨gtbl_of (List.mem_of_getElem? (i := 948) (by decide +kernel)) (by decide +kernel), gtbl_of (List.mem_of_getElem? (i := 84) (by decide +kernel)) (by decide +kernel), by decide +kernel, rfl, rfl⟩
theorem im_X9_goOn : Cond.instanceMethod yX9_goOn ∈ gtbl := gtbl_of (List.mem_of_getElem? (i := 947) (by decide +kernel)) (by decide +kernel)
theorem se_X9_goOn : Cond.selects RX9 yX9_goOn yX9_goOn ∈ gtbl := gtbl_of (by decide +kernel) (by decide +kernel)
theorem lk_X9_223 : Cond.methodLink RX9 223 yX9_at ∈ gtbl := gtbl_of (List.mem_of_getElem? (i := 938) (by decide +kernel)) (by decide +kernel)
theorem cal_X9_at {d : Nat} : Cal yX9_at cX9_at 3 (some .int) (rmD d) 3 := ⟨gtbl_of (List.mem_of_getElem? (i := 940) (by decide +kernel)) (by decide +kernel), gtbl_of (List.mem_of_getElem? (i := 84) (by decide +kernel)) (by decide +kernel), by decide +kernel, rfl, rfl⟩
theorem st_X9_at : Cond.static yX9_at ∈ gtbl := gtbl_of (List.mem_of_getElem? (i := 939) (by decide +kernel)) (by decide +kernel)
theorem lk_X9_227 : Cond.methodLink RX9 227 yX9_holds ∈ gtbl := gtbl_of (List.mem_of_getElem? (i := 934) (by decide +kernel)) (by decide +kernel)
theorem cal_X9_holds {d : Nat} : Cal yX9_holds cX9_holds 4 (some .boolean) (rmD d) 3 := ⟨gtbl_of (List.mem_of_getElem? (i := 937) (by decide +kernel)) (by decide +kernel), gtbl_of (List.mem_of_getElem? (i := 84) (by decide +kernel)) (by decide +kernel), by decide +kernel, rfl, rfl⟩
theorem im_X9_holds : Cond.instanceMethod yX9_holds ∈ gtbl := gtbl_of (List.mem_of_getElem? (i := 936) (by decide +kernel)) (by decide +kernel)
theorem se_X9_holds : Cond.selects RX9 yX9_holds yX9_holds ∈ gtbl := gtbl_of (by decide +kernel) (by decide +kernel)
theorem lk_X9_231 : Cond.methodLink RX9 231 yX9_isObject ∈ gtbl := gtbl_of (List.mem_of_getElem? (i := 921) (by decide +kernel)) (by decide +kernel)
theorem cal_X9_isObject {d : Nat} : Cal yX9_isObject cX9_isObject 1 (some .boolean) (rmD d) 1 := ⟨gtbl_of (List.mem_of_getElem? (i := 923) (by decide +kernel)) (by decide +kernel), gtbl_of (List.mem_of_getElem? (i := 84) (by decide +kernel)) (by decide +kernel), by decide +kernel, rfl, rfl⟩
theorem st_X9_isObject : Cond.static yX9_isObject ∈ gtbl := gtbl_of (List.mem_of_getElem? (i := 922) (by decide +kernel)) (by decide +kernel)
theorem lk_X9_236 : Cond.methodLink RX9 236 yX9_bars ∈ gtbl := gtbl_of (List.mem_of_getElem? (i := 926) (by decide +kernel)) (by decide +kernel)
theorem cal_X9_bars {d : Nat} : Cal yX9_bars cX9_bars 1 (some .int) (rmD d) 0 := ⟨gtbl_of (List.mem_of_getElem? (i := 929) (by decide +kernel)) (by decide +kernel), gtbl_of (List.mem_of_getElem? (i := 84) (by decide +kernel)) (by decide +kernel), by decide +kernel, rfl, rfl⟩
theorem im_X9_bars : Cond.instanceMethod yX9_bars ∈ gtbl := gtbl_of (List.mem_of_getElem? (i := 928) (by decide +kernel)) (by decide +kernel)
theorem se_X9_bars : Cond.selects RX9 yX9_bars yX9_bars ∈ gtbl := gtbl_of (by decide +kernel) (by decide +kernel)
theorem lk_X9_240 : Cond.methodLink RX9 240 yX9_causeOf ∈ gtbl := gtbl_of (List.mem_of_getElem? (i := 930) (by decide +kernel)) (by decide +kernel)
theorem cal_X9_causeOf {d : Nat} : Cal yX9_causeOf cX9_causeOf 4 (some .int) (rmD d) 3 := ⟨gtbl_of (List.mem_of_getElem? (i := 933) (by decide +kernel)) (by decide +kernel), gtbl_of (List.mem_of_getElem? (i := 84) (by decide +kernel)) (by decide +kernel), by decide +kernel, rfl, rfl⟩
theorem im_X9_causeOf : Cond.instanceMethod yX9_causeOf ∈ gtbl := gtbl_of (List.mem_of_getElem? (i := 932) (by decide +kernel)) (by decide +kernel)
theorem se_X9_causeOf : Cond.selects RX9 yX9_causeOf yX9_causeOf ∈ gtbl := gtbl_of (by decide +kernel) (by decide +kernel)
theorem lk_X9_249 : Cond.methodLink RX9 249 yX9_comes ∈ gtbl := gtbl_of (List.mem_of_getElem? (i := 941) (by decide +kernel)) (by decide +kernel)
theorem cal_X9_comes {d : Nat} : Cal yX9_comes cX9_comes 9 none (rmD d) 5 := ⟨gtbl_of (List.mem_of_getElem? (i := 944) (by decide +kernel)) (by decide +kernel), gtbl_of (List.mem_of_getElem? (i := 84) (by decide +kernel)) (by decide +kernel), by decide +kernel, rfl, rfl⟩
theorem im_X9_comes : Cond.instanceMethod yX9_comes ∈ gtbl := gtbl_of (List.mem_of_getElem? (i := 943) (by decide +kernel)) (by decide +kernel)
theorem se_X9_comes : Cond.selects RX9 yX9_comes yX9_comes ∈ gtbl := gtbl_of (by decide +kernel) (by decide +kernel)
theorem lk_X9_253 : Cond.methodLink RX9 253 yX9_isTo ∈ gtbl := gtbl_of (List.mem_of_getElem? (i := 992) (by decide +kernel)) (by decide +kernel)
theorem cal_X9_isTo {d : Nat} : Cal yX9_isTo cX9_isTo 1 (some .boolean) (rmD d) 1 := ⟨gtbl_of (List.mem_of_getElem? (i := 994) (by decide +kernel)) (by decide +kernel), gtbl_of (List.mem_of_getElem? (i := 84) (by decide +kernel)) (by decide +kernel), by decide +kernel, rfl, rfl⟩
theorem st_X9_isTo : Cond.static yX9_isTo ∈ gtbl := gtbl_of (List.mem_of_getElem? (i := 993) (by decide +kernel)) (by decide +kernel)
theorem lk_X9_256 : Cond.methodLink RX9 256 yX9_becomes ∈ gtbl := gtbl_of (List.mem_of_getElem? (i := 988) (by decide +kernel)) (by decide +kernel)
theorem cal_X9_becomes {d : Nat} : Cal yX9_becomes cX9_becomes 7 (some .int) (rmD d) 4 := ⟨gtbl_of (List.mem_of_getElem? (i := 991) (by decide +kernel)) (by decide +kernel), gtbl_of (List.mem_of_getElem? (i := 84) (by decide +kernel)) (by decide +kernel), by decide +kernel, rfl, rfl⟩
theorem im_X9_becomes : Cond.instanceMethod yX9_becomes ∈ gtbl := gtbl_of (List.mem_of_getElem? (i := 990) (by decide +kernel)) (by decide +kernel)
theorem se_X9_becomes : Cond.selects RX9 yX9_becomes yX9_becomes ∈ gtbl := gtbl_of (by decide +kernel) (by decide +kernel)
theorem lk_X9_262 : Cond.methodLink RX9 262 yX9_entriesNow ∈ gtbl := gtbl_of (List.mem_of_getElem? (i := 1030) (by decide +kernel)) (by decide +kernel)
theorem cal_X9_entriesNow {d : Nat} : Cal yX9_entriesNow cX9_entriesNow 1 (some .int) (rmD d) 0 := ⟨gtbl_of (List.mem_of_getElem? (i := 1033) (by decide +kernel)) (by decide +kernel), gtbl_of (List.mem_of_getElem? (i := 84) (by decide +kernel)) (by decide +kernel), by decide +kernel, rfl, rfl⟩
theorem im_X9_entriesNow : Cond.instanceMethod yX9_entriesNow ∈ gtbl := gtbl_of (List.mem_of_getElem? (i := 1032) (by decide +kernel)) (by decide +kernel)
theorem se_X9_entriesNow : Cond.selects RX9 yX9_entriesNow yX9_entriesNow ∈ gtbl := gtbl_of (by decide +kernel) (by decide +kernel)
theorem lk_X9_267 : Cond.methodLink RX9 267 yX9_leaf ∈ gtbl := gtbl_of (List.mem_of_getElem? (i := 1047) (by decide +kernel)) (by decide +kernel)
theorem cal_X9_leaf {d : Nat} : Cal yX9_leaf cX9_leaf 2 none (rmD d) 1 := ⟨gtbl_of (List.mem_of_getElem? (i := 1050) (by decide +kernel)) (by decide +kernel), gtbl_of (List.mem_of_getElem? (i := 84) (by decide +kernel)) (by decide +kernel), by decide +kernel, rfl, rfl⟩
theorem im_X9_leaf : Cond.instanceMethod yX9_leaf ∈ gtbl := gtbl_of (List.mem_of_getElem? (i := 1049) (by decide +kernel)) (by decide +kernel)
theorem se_X9_leaf : Cond.selects RX9 yX9_leaf yX9_leaf ∈ gtbl := gtbl_of (by decide +kernel) (by decide +kernel)
theorem lk_X9_270 : Cond.methodLink RX9 270 yX9_joins ∈ gtbl := gtbl_of (List.mem_of_getElem? (i := 1051) (by decide +kernel)) (by decide +kernel)
theorem cal_X9_joins {d : Nat} : Cal yX9_joins cX9_joins 2 none (rmD d) 1 := ⟨gtbl_of (List.mem_of_getElem? (i := 1054) (by decide +kernel)) (by decide +kernel), gtbl_of (List.mem_of_getElem? (i := 84) (by decide +kernel)) (by decide +kernel), by decide +kernel, rfl, rfl⟩
theorem im_X9_joins : Cond.instanceMethod yX9_joins ∈ gtbl := gtbl_of (List.mem_of_getElem? (i := 1053) (by decide +kernel)) (by decide +kernel)
theorem se_X9_joins : Cond.selects RX9 yX9_joins yX9_joins ∈ gtbl := gtbl_of (by decide +kernel) (by decide +kernel)
theorem lk_X9_273 : Cond.methodLink RX9 273 yX9_pair ∈ gtbl := gtbl_of (List.mem_of_getElem? (i := 1055) (by decide +kernel)) (by decide +kernel)
theorem cal_X9_pair {d : Nat} : Cal yX9_pair cX9_pair 5 none (rmD d) 4 := ⟨gtbl_of (List.mem_of_getElem? (i := 1058) (by decide +kernel)) (by decide +kernel), gtbl_of (List.mem_of_getElem? (i := 84) (by decide +kernel)) (by decide +kernel), by decide +kernel, rfl, rfl⟩
theorem im_X9_pair : Cond.instanceMethod yX9_pair ∈ gtbl := gtbl_of (List.mem_of_getElem? (i := 1057) (by decide +kernel)) (by decide +kernel)
theorem se_X9_pair : Cond.selects RX9 yX9_pair yX9_pair ∈ gtbl := gtbl_of (by decide +kernel) (by decide +kernel)
theorem lk_X9_277 : Cond.methodLink RX9 277 yX9_rootOf ∈ gtbl := gtbl_of (List.mem_of_getElem? (i := 1043) (by decide +kernel)) (by decide +kernel)
theorem cal_X9_rootOf {d : Nat} : Cal yX9_rootOf cX9_rootOf 6 none (rmD d) 2 := ⟨gtbl_of (List.mem_of_getElem? (i := 1046) (by decide +kernel)) (by decide +kernel), gtbl_of (List.mem_of_getElem? (i := 84) (by decide +kernel)) (by decide +kernel), by decide +kernel, rfl, rfl⟩
theorem im_X9_rootOf : Cond.instanceMethod yX9_rootOf ∈ gtbl := gtbl_of (List.mem_of_getElem? (i := 1045) (by decide +kernel)) (by decide +kernel)
theorem se_X9_rootOf : Cond.selects RX9 yX9_rootOf yX9_rootOf ∈ gtbl := gtbl_of (by decide +kernel) (by decide +kernel)
theorem lk_X9_284 : Cond.methodLink RX9 284 yX9_below ∈ gtbl := gtbl_of (List.mem_of_getElem? (i := 1063) (by decide +kernel)) (by decide +kernel)
theorem cal_X9_below {d : Nat} : Cal yX9_below cX9_below 2 (some .int) (rmD d) 1 := ⟨gtbl_of (List.mem_of_getElem? (i := 1065) (by decide +kernel)) (by decide +kernel), gtbl_of (List.mem_of_getElem? (i := 84) (by decide +kernel)) (by decide +kernel), by decide +kernel, rfl, rfl⟩
theorem st_X9_below : Cond.static yX9_below ∈ gtbl := gtbl_of (List.mem_of_getElem? (i := 1064) (by decide +kernel)) (by decide +kernel)
theorem lk_X9_288 : Cond.methodLink RX9 288 yX9_tells ∈ gtbl := gtbl_of (List.mem_of_getElem? (i := 1066) (by decide +kernel)) (by decide +kernel)
theorem cal_X9_tells {d : Nat} : Cal yX9_tells cX9_tells 3 (some .int) (rmD d) 1 := ⟨gtbl_of (List.mem_of_getElem? (i := 1069) (by decide +kernel)) (by decide +kernel), gtbl_of (List.mem_of_getElem? (i := 84) (by decide +kernel)) (by decide +kernel), by decide +kernel, rfl, rfl⟩
theorem im_X9_tells : Cond.instanceMethod yX9_tells ∈ gtbl := gtbl_of (List.mem_of_getElem? (i := 1068) (by decide +kernel)) (by decide +kernel)
theorem se_X9_tells : Cond.selects RX9 yX9_tells yX9_tells ∈ gtbl := gtbl_of (by decide +kernel) (by decide +kernel)
theorem lk_X9_295 : Cond.methodLink RX9 295 yX9_isLike ∈ gtbl := gtbl_of (List.mem_of_getElem? (i := 1104) (by decide +kernel)) (by decide +kernel)
theorem cal_X9_isLike {d : Nat} : Cal yX9_isLike cX9_isLike 6 (some .boolean) (rmD d) 4 := ⟨gtbl_of (List.mem_of_getElem? (i := 1106) (by decide +kernel)) (by decide +kernel), gtbl_of (List.mem_of_getElem? (i := 84) (by decide +kernel)) (by decide +kernel), by decide +kernel, rfl, rfl⟩
theorem st_X9_isLike : Cond.static yX9_isLike ∈ gtbl := gtbl_of (List.mem_of_getElem? (i := 1105) (by decide +kernel)) (by decide +kernel)
theorem lk_X9_304 : Cond.methodLink RX9 304 yX9_isFrame ∈ gtbl := gtbl_of (List.mem_of_getElem? (i := 1124) (by decide +kernel)) (by decide +kernel)
theorem cal_X9_isFrame {d : Nat} : Cal yX9_isFrame cX9_isFrame 5 (some .boolean) (rmD d) 1 := ⟨gtbl_of (List.mem_of_getElem? (i := 1127) (by decide +kernel)) (by decide +kernel), gtbl_of (List.mem_of_getElem? (i := 84) (by decide +kernel)) (by decide +kernel), by decide +kernel, rfl, rfl⟩
theorem im_X9_isFrame : Cond.instanceMethod yX9_isFrame ∈ gtbl := gtbl_of (List.mem_of_getElem? (i := 1126) (by decide +kernel)) (by decide +kernel)
theorem se_X9_isFrame : Cond.selects RX9 yX9_isFrame yX9_isFrame ∈ gtbl := gtbl_of (by decide +kernel) (by decide +kernel)
theorem lk_X9_311 : Cond.methodLink RX9 311 yX9_subjectAt ∈ gtbl := gtbl_of (List.mem_of_getElem? (i := 1154) (by decide +kernel)) (by decide +kernel)
theorem lk_X9_314 : Cond.methodLink RX9 314 yX9_count ∈ gtbl := gtbl_of (List.mem_of_getElem? (i := 1155) (by decide +kernel)) (by decide +kernel)
theorem lk_X8_86 : Cond.constant RX8 86 (1000000 : Int32) ∈ gtbl := gtbl_of (List.mem_of_getElem? (i := 317) (by decide +kernel)) (by decide +kernel)
theorem lk_X8_91 : Cond.constant RX8 91 (2000000000 : Int32) ∈ gtbl := gtbl_of (List.mem_of_getElem? (i := 321) (by decide +kernel)) (by decide +kernel)
theorem lk_X9_86 : Cond.constant RX9 86 (1116352408 : Int32) ∈ gtbl := gtbl_of (List.mem_of_getElem? (i := 737) (by decide +kernel)) (by decide +kernel)
theorem lk_X9_87 : Cond.constant RX9 87 (1899447441 : Int32) ∈ gtbl := gtbl_of (List.mem_of_getElem? (i := 738) (by decide +kernel)) (by decide +kernel)
theorem lk_X9_88 : Cond.constant RX9 88 (-1245643825 : Int32) ∈ gtbl := gtbl_of (List.mem_of_getElem? (i := 739) (by decide +kernel)) (by decide +kernel)
theorem lk_X9_89 : Cond.constant RX9 89 (-373957723 : Int32) ∈ gtbl := gtbl_of (List.mem_of_getElem? (i := 740) (by decide +kernel)) (by decide +kernel)
theorem lk_X9_90 : Cond.constant RX9 90 (961987163 : Int32) ∈ gtbl := gtbl_of (List.mem_of_getElem? (i := 741) (by decide +kernel)) (by decide +kernel)
theorem lk_X9_91 : Cond.constant RX9 91 (1508970993 : Int32) ∈ gtbl := gtbl_of (List.mem_of_getElem? (i := 742) (by decide +kernel)) (by decide +kernel)
theorem lk_X9_92 : Cond.constant RX9 92 (-1841331548 : Int32) ∈ gtbl := gtbl_of (List.mem_of_getElem? (i := 743) (by decide +kernel)) (by decide +kernel)
theorem lk_X9_93 : Cond.constant RX9 93 (-1424204075 : Int32) ∈ gtbl := gtbl_of (List.mem_of_getElem? (i := 744) (by decide +kernel)) (by decide +kernel)
theorem lk_X9_94 : Cond.constant RX9 94 (-670586216 : Int32) ∈ gtbl := gtbl_of (List.mem_of_getElem? (i := 745) (by decide +kernel)) (by decide +kernel)
theorem lk_X9_95 : Cond.constant RX9 95 (310598401 : Int32) ∈ gtbl := gtbl_of (List.mem_of_getElem? (i := 746) (by decide +kernel)) (by decide +kernel)
theorem lk_X9_96 : Cond.constant RX9 96 (607225278 : Int32) ∈ gtbl := gtbl_of (List.mem_of_getElem? (i := 747) (by decide +kernel)) (by decide +kernel)
theorem lk_X9_97 : Cond.constant RX9 97 (1426881987 : Int32) ∈ gtbl := gtbl_of (List.mem_of_getElem? (i := 748) (by decide +kernel)) (by decide +kernel)
theorem lk_X9_98 : Cond.constant RX9 98 (1925078388 : Int32) ∈ gtbl := gtbl_of (List.mem_of_getElem? (i := 749) (by decide +kernel)) (by decide +kernel)
theorem lk_X9_99 : Cond.constant RX9 99 (-2132889090 : Int32) ∈ gtbl := gtbl_of (List.mem_of_getElem? (i := 750) (by decide +kernel)) (by decide +kernel)
theorem lk_X9_100 : Cond.constant RX9 100 (-1680079193 : Int32) ∈ gtbl := gtbl_of (List.mem_of_getElem? (i := 751) (by decide +kernel)) (by decide +kernel)
theorem lk_X9_101 : Cond.constant RX9 101 (-1046744716 : Int32) ∈ gtbl := gtbl_of (List.mem_of_getElem? (i := 752) (by decide +kernel)) (by decide +kernel)
theorem lk_X9_102 : Cond.constant RX9 102 (-459576895 : Int32) ∈ gtbl := gtbl_of (List.mem_of_getElem? (i := 753) (by decide +kernel)) (by decide +kernel)
theorem lk_X9_103 : Cond.constant RX9 103 (-272742522 : Int32) ∈ gtbl := gtbl_of (List.mem_of_getElem? (i := 754) (by decide +kernel)) (by decide +kernel)
theorem lk_X9_104 : Cond.constant RX9 104 (264347078 : Int32) ∈ gtbl := gtbl_of (List.mem_of_getElem? (i := 755) (by decide +kernel)) (by decide +kernel)
theorem lk_X9_105 : Cond.constant RX9 105 (604807628 : Int32) ∈ gtbl := gtbl_of (List.mem_of_getElem? (i := 756) (by decide +kernel)) (by decide +kernel)
theorem lk_X9_106 : Cond.constant RX9 106 (770255983 : Int32) ∈ gtbl := gtbl_of (List.mem_of_getElem? (i := 757) (by decide +kernel)) (by decide +kernel)
theorem lk_X9_107 : Cond.constant RX9 107 (1249150122 : Int32) ∈ gtbl := gtbl_of (List.mem_of_getElem? (i := 758) (by decide +kernel)) (by decide +kernel)
theorem lk_X9_108 : Cond.constant RX9 108 (1555081692 : Int32) ∈ gtbl := gtbl_of (List.mem_of_getElem? (i := 759) (by decide +kernel)) (by decide +kernel)
theorem lk_X9_109 : Cond.constant RX9 109 (1996064986 : Int32) ∈ gtbl := gtbl_of (List.mem_of_getElem? (i := 760) (by decide +kernel)) (by decide +kernel)
theorem lk_X9_110 : Cond.constant RX9 110 (-1740746414 : Int32) ∈ gtbl := gtbl_of (List.mem_of_getElem? (i := 761) (by decide +kernel)) (by decide +kernel)
theorem lk_X9_111 : Cond.constant RX9 111 (-1473132947 : Int32) ∈ gtbl := gtbl_of (List.mem_of_getElem? (i := 762) (by decide +kernel)) (by decide +kernel)
theorem lk_X9_112 : Cond.constant RX9 112 (-1341970488 : Int32) ∈ gtbl := gtbl_of (List.mem_of_getElem? (i := 763) (by decide +kernel)) (by decide +kernel)
theorem lk_X9_113 : Cond.constant RX9 113 (-1084653625 : Int32) ∈ gtbl := gtbl_of (List.mem_of_getElem? (i := 764) (by decide +kernel)) (by decide +kernel)
theorem lk_X9_114 : Cond.constant RX9 114 (-958395405 : Int32) ∈ gtbl := gtbl_of (List.mem_of_getElem? (i := 765) (by decide +kernel)) (by decide +kernel)
theorem lk_X9_115 : Cond.constant RX9 115 (-710438585 : Int32) ∈ gtbl := gtbl_of (List.mem_of_getElem? (i := 766) (by decide +kernel)) (by decide +kernel)
theorem lk_X9_116 : Cond.constant RX9 116 (113926993 : Int32) ∈ gtbl := gtbl_of (List.mem_of_getElem? (i := 767) (by decide +kernel)) (by decide +kernel)
theorem lk_X9_117 : Cond.constant RX9 117 (338241895 : Int32) ∈ gtbl := gtbl_of (List.mem_of_getElem? (i := 768) (by decide +kernel)) (by decide +kernel)
theorem lk_X9_118 : Cond.constant RX9 118 (666307205 : Int32) ∈ gtbl := gtbl_of (List.mem_of_getElem? (i := 769) (by decide +kernel)) (by decide +kernel)
theorem lk_X9_119 : Cond.constant RX9 119 (773529912 : Int32) ∈ gtbl := gtbl_of (List.mem_of_getElem? (i := 770) (by decide +kernel)) (by decide +kernel)
theorem lk_X9_120 : Cond.constant RX9 120 (1294757372 : Int32) ∈ gtbl := gtbl_of (List.mem_of_getElem? (i := 771) (by decide +kernel)) (by decide +kernel)
theorem lk_X9_121 : Cond.constant RX9 121 (1396182291 : Int32) ∈ gtbl := gtbl_of (List.mem_of_getElem? (i := 772) (by decide +kernel)) (by decide +kernel)
theorem lk_X9_122 : Cond.constant RX9 122 (1695183700 : Int32) ∈ gtbl := gtbl_of (List.mem_of_getElem? (i := 773) (by decide +kernel)) (by decide +kernel)
theorem lk_X9_123 : Cond.constant RX9 123 (1986661051 : Int32) ∈ gtbl := gtbl_of (List.mem_of_getElem? (i := 774) (by decide +kernel)) (by decide +kernel)
theorem lk_X9_124 : Cond.constant RX9 124 (-2117940946 : Int32) ∈ gtbl := gtbl_of (List.mem_of_getElem? (i := 775) (by decide +kernel)) (by decide +kernel)
theorem lk_X9_125 : Cond.constant RX9 125 (-1838011259 : Int32) ∈ gtbl := gtbl_of (List.mem_of_getElem? (i := 776) (by decide +kernel)) (by decide +kernel)
theorem lk_X9_126 : Cond.constant RX9 126 (-1564481375 : Int32) ∈ gtbl := gtbl_of (List.mem_of_getElem? (i := 777) (by decide +kernel)) (by decide +kernel)
theorem lk_X9_127 : Cond.constant RX9 127 (-1474664885 : Int32) ∈ gtbl := gtbl_of (List.mem_of_getElem? (i := 778) (by decide +kernel)) (by decide +kernel)
theorem lk_X9_128 : Cond.constant RX9 128 (-1035236496 : Int32) ∈ gtbl := gtbl_of (List.mem_of_getElem? (i := 779) (by decide +kernel)) (by decide +kernel)
theorem lk_X9_129 : Cond.constant RX9 129 (-949202525 : Int32) ∈ gtbl := gtbl_of (List.mem_of_getElem? (i := 780) (by decide +kernel)) (by decide +kernel)
theorem lk_X9_130 : Cond.constant RX9 130 (-778901479 : Int32) ∈ gtbl := gtbl_of (List.mem_of_getElem? (i := 781) (by decide +kernel)) (by decide +kernel)
theorem lk_X9_131 : Cond.constant RX9 131 (-694614492 : Int32) ∈ gtbl := gtbl_of (List.mem_of_getElem? (i := 782) (by decide +kernel)) (by decide +kernel)
theorem lk_X9_132 : Cond.constant RX9 132 (-200395387 : Int32) ∈ gtbl := gtbl_of (List.mem_of_getElem? (i := 783) (by decide +kernel)) (by decide +kernel)
theorem lk_X9_133 : Cond.constant RX9 133 (275423344 : Int32) ∈ gtbl := gtbl_of (List.mem_of_getElem? (i := 784) (by decide +kernel)) (by decide +kernel)
theorem lk_X9_134 : Cond.constant RX9 134 (430227734 : Int32) ∈ gtbl := gtbl_of (List.mem_of_getElem? (i := 785) (by decide +kernel)) (by decide +kernel)
theorem lk_X9_135 : Cond.constant RX9 135 (506948616 : Int32) ∈ gtbl := gtbl_of (List.mem_of_getElem? (i := 786) (by decide +kernel)) (by decide +kernel)
theorem lk_X9_136 : Cond.constant RX9 136 (659060556 : Int32) ∈ gtbl := gtbl_of (List.mem_of_getElem? (i := 787) (by decide +kernel)) (by decide +kernel)
theorem lk_X9_137 : Cond.constant RX9 137 (883997877 : Int32) ∈ gtbl := gtbl_of (List.mem_of_getElem? (i := 788) (by decide +kernel)) (by decide +kernel)
theorem lk_X9_138 : Cond.constant RX9 138 (958139571 : Int32) ∈ gtbl := gtbl_of (List.mem_of_getElem? (i := 789) (by decide +kernel)) (by decide +kernel)
theorem lk_X9_139 : Cond.constant RX9 139 (1322822218 : Int32) ∈ gtbl := gtbl_of (List.mem_of_getElem? (i := 790) (by decide +kernel)) (by decide +kernel)
theorem lk_X9_140 : Cond.constant RX9 140 (1537002063 : Int32) ∈ gtbl := gtbl_of (List.mem_of_getElem? (i := 791) (by decide +kernel)) (by decide +kernel)
theorem lk_X9_141 : Cond.constant RX9 141 (1747873779 : Int32) ∈ gtbl := gtbl_of (List.mem_of_getElem? (i := 792) (by decide +kernel)) (by decide +kernel)
theorem lk_X9_142 : Cond.constant RX9 142 (1955562222 : Int32) ∈ gtbl := gtbl_of (List.mem_of_getElem? (i := 793) (by decide +kernel)) (by decide +kernel)
theorem lk_X9_143 : Cond.constant RX9 143 (2024104815 : Int32) ∈ gtbl := gtbl_of (List.mem_of_getElem? (i := 794) (by decide +kernel)) (by decide +kernel)
theorem lk_X9_144 : Cond.constant RX9 144 (-2067236844 : Int32) ∈ gtbl := gtbl_of (List.mem_of_getElem? (i := 795) (by decide +kernel)) (by decide +kernel)
theorem lk_X9_145 : Cond.constant RX9 145 (-1933114872 : Int32) ∈ gtbl := gtbl_of (List.mem_of_getElem? (i := 796) (by decide +kernel)) (by decide +kernel)
theorem lk_X9_146 : Cond.constant RX9 146 (-1866530822 : Int32) ∈ gtbl := gtbl_of (List.mem_of_getElem? (i := 797) (by decide +kernel)) (by decide +kernel)
theorem lk_X9_147 : Cond.constant RX9 147 (-1538233109 : Int32) ∈ gtbl := gtbl_of (List.mem_of_getElem? (i := 798) (by decide +kernel)) (by decide +kernel)
theorem lk_X9_148 : Cond.constant RX9 148 (-1090935817 : Int32) ∈ gtbl := gtbl_of (List.mem_of_getElem? (i := 799) (by decide +kernel)) (by decide +kernel)
theorem lk_X9_149 : Cond.constant RX9 149 (-965641998 : Int32) ∈ gtbl := gtbl_of (List.mem_of_getElem? (i := 800) (by decide +kernel)) (by decide +kernel)
theorem lk_X9_162 : Cond.constant RX9 162 (1779033703 : Int32) ∈ gtbl := gtbl_of (List.mem_of_getElem? (i := 965) (by decide +kernel)) (by decide +kernel)
theorem lk_X9_163 : Cond.constant RX9 163 (-1150833019 : Int32) ∈ gtbl := gtbl_of (List.mem_of_getElem? (i := 966) (by decide +kernel)) (by decide +kernel)
theorem lk_X9_164 : Cond.constant RX9 164 (1013904242 : Int32) ∈ gtbl := gtbl_of (List.mem_of_getElem? (i := 967) (by decide +kernel)) (by decide +kernel)
theorem lk_X9_165 : Cond.constant RX9 165 (-1521486534 : Int32) ∈ gtbl := gtbl_of (List.mem_of_getElem? (i := 968) (by decide +kernel)) (by decide +kernel)
theorem lk_X9_166 : Cond.constant RX9 166 (1359893119 : Int32) ∈ gtbl := gtbl_of (List.mem_of_getElem? (i := 969) (by decide +kernel)) (by decide +kernel)
theorem lk_X9_167 : Cond.constant RX9 167 (-1694144372 : Int32) ∈ gtbl := gtbl_of (List.mem_of_getElem? (i := 970) (by decide +kernel)) (by decide +kernel)
theorem lk_X9_168 : Cond.constant RX9 168 (528734635 : Int32) ∈ gtbl := gtbl_of (List.mem_of_getElem? (i := 971) (by decide +kernel)) (by decide +kernel)
theorem lk_X9_169 : Cond.constant RX9 169 (1541459225 : Int32) ∈ gtbl := gtbl_of (List.mem_of_getElem? (i := 972) (by decide +kernel)) (by decide +kernel)
theorem lk_X8_245 : Cond.constantLong RX8 245 (17 : Int64) ∈ gtbl := gtbl_of (List.mem_of_getElem? (i := 726) (by decide +kernel)) (by decide +kernel)
theorem lk_X8_247 : Cond.constantLong RX8 247 (31 : Int64) ∈ gtbl := gtbl_of (List.mem_of_getElem? (i := 727) (by decide +kernel)) (by decide +kernel)
theorem lk_L_134 : Cond.constantLong RL 134 (4294967295 : Int64) ∈ gtbl := gtbl_of (List.mem_of_getElem? (i := 1156) (by decide +kernel)) (by decide +kernel)
theorem lk_X9_183 : Cond.constantLong RX9 183 (11 : Int64) ∈ gtbl := gtbl_of (List.mem_of_getElem? (i := 920) (by decide +kernel)) (by decide +kernel)
theorem lk_X9_189 : Cond.constantLong RX9 189 (15 : Int64) ∈ gtbl := gtbl_of (List.mem_of_getElem? (i := 924) (by decide +kernel)) (by decide +kernel)
theorem lk_X9_195 : Cond.constantLong RX9 195 (16 : Int64) ∈ gtbl := gtbl_of (List.mem_of_getElem? (i := 995) (by decide +kernel)) (by decide +kernel)
theorem lk_X9_197 : Cond.constantLong RX9 197 (19 : Int64) ∈ gtbl := gtbl_of (List.mem_of_getElem? (i := 996) (by decide +kernel)) (by decide +kernel)
theorem lk_X9_199 : Cond.constantLong RX9 199 (1000000 : Int64) ∈ gtbl := gtbl_of (List.mem_of_getElem? (i := 908) (by decide +kernel)) (by decide +kernel)
theorem lk_X9_204 : Cond.constantLong RX9 204 (2000000000 : Int64) ∈ gtbl := gtbl_of (List.mem_of_getElem? (i := 912) (by decide +kernel)) (by decide +kernel)
theorem lk_X9_234 : Cond.constantLong RX9 234 (3 : Int64) ∈ gtbl := gtbl_of (List.mem_of_getElem? (i := 925) (by decide +kernel)) (by decide +kernel)
theorem lk_X9_260 : Cond.constantLong RX9 260 (7 : Int64) ∈ gtbl := gtbl_of (List.mem_of_getElem? (i := 1005) (by decide +kernel)) (by decide +kernel)
theorem lk_X9_265 : Cond.constantLong RX9 265 (31 : Int64) ∈ gtbl := gtbl_of (List.mem_of_getElem? (i := 1038) (by decide +kernel)) (by decide +kernel)
theorem lk_X9_291 : Cond.constantLong RX9 291 (255 : Int64) ∈ gtbl := gtbl_of (List.mem_of_getElem? (i := 1082) (by decide +kernel)) (by decide +kernel)
theorem lk_X9_293 : Cond.constantLong RX9 293 (60 : Int64) ∈ gtbl := gtbl_of (List.mem_of_getElem? (i := 1103) (by decide +kernel)) (by decide +kernel)
theorem lk_X9_302 : Cond.constantLong RX9 302 (1020 : Int64) ∈ gtbl := gtbl_of (List.mem_of_getElem? (i := 1119) (by decide +kernel)) (by decide +kernel)
theorem lk_X9_307 : Cond.constantLong RX9 307 (1019 : Int64) ∈ gtbl := gtbl_of (List.mem_of_getElem? (i := 1132) (by decide +kernel)) (by decide +kernel)
theorem lk_X9_309 : Cond.constantLong RX9 309 (17 : Int64) ∈ gtbl := gtbl_of (List.mem_of_getElem? (i := 1153) (by decide +kernel)) (by decide +kernel)
