section
theorem la_2 : lay[2]? = some (0, 40, []) := rfl
theorem la_3 : lay[3]? = some (0, 40, []) := rfl
theorem la_4 : lay[4]? = some (0, 40, []) := rfl
theorem la_5 : lay[5]? = some (0, 10, []) := rfl
theorem la_6 : lay[6]? = some (0, 10, []) := rfl
theorem la_7 : lay[7]? = some (0, 40, []) := rfl
theorem la_8 : lay[8]? = some (0, 40, []) := rfl
theorem la_9 : lay[9]? = some (0, 40, []) := rfl
theorem la_10 : lay[10]? = some (0, 40, []) := rfl
theorem la_11 : lay[11]? = some (1, 8, []) := rfl
theorem la_12 : lay[12]? = some (0, 3, []) := rfl
theorem la_13 : lay[13]? = some (0, 40, []) := rfl
theorem la_15 : lay[15]? = some (0, 60, []) := rfl
theorem la_16 : lay[16]? = some (0, 60, []) := rfl
theorem la_17 : lay[17]? = some (0, 60, []) := rfl
theorem la_18 : lay[18]? = some (0, 480, []) := rfl
theorem la_19 : lay[19]? = some (0, 480, []) := rfl
theorem la_20 : lay[20]? = some (0, 8, []) := rfl
theorem la_21 : lay[21]? = some (0, 8, []) := rfl
theorem la_22 : lay[22]? = some (0, 8, []) := rfl
theorem la_24 : lay[24]? = some (0, 8, []) := rfl
theorem la_25 : lay[25]? = some (0, 8, []) := rfl
theorem la_26 : lay[26]? = some (0, 200, []) := rfl
theorem la_27 : lay[27]? = some (0, 200, []) := rfl
theorem la_28 : lay[28]? = some (0, 200, []) := rfl
theorem la_29 : lay[29]? = some (2, 200, []) := rfl
theorem la_30 : lay[30]? = some (0, 40, []) := rfl
theorem la_31 : lay[31]? = some (1, 8, []) := rfl
theorem la_32 : lay[32]? = some (0, 10, []) := rfl
theorem la_34 : lay[34]? = some (0, 40, []) := rfl
theorem la_35 : lay[35]? = some (0, 40, []) := rfl
theorem la_36 : lay[36]? = some (0, 256, []) := rfl
theorem la_38 : lay[38]? = some (0, 12350, []) := rfl
theorem la_39 : lay[39]? = some (0, 192, []) := rfl
theorem la_41 : lay[41]? = some (0, 12, []) := rfl
theorem la_42 : lay[42]? = some (0, 12, []) := rfl
theorem la_43 : lay[43]? = some (0, 12, []) := rfl
theorem la_44 : lay[44]? = some (0, 12, []) := rfl
theorem la_45 : lay[45]? = some (0, 288, []) := rfl
theorem la_46 : lay[46]? = some (0, 24, []) := rfl
theorem la_48 : lay[48]? = some (0, 40, []) := rfl
theorem la_49 : lay[49]? = some (0, 40, []) := rfl
theorem la_50 : lay[50]? = some (0, 40, []) := rfl
theorem la_51 : lay[51]? = some (0, 10, []) := rfl
theorem la_52 : lay[52]? = some (0, 10, []) := rfl
theorem la_53 : lay[53]? = some (0, 40, []) := rfl
theorem la_54 : lay[54]? = some (0, 40, []) := rfl
theorem la_55 : lay[55]? = some (0, 40, []) := rfl
theorem la_56 : lay[56]? = some (0, 40, []) := rfl
theorem la_57 : lay[57]? = some (0, 40, []) := rfl
theorem la_58 : lay[58]? = some (0, 3, []) := rfl
theorem la_59 : lay[59]? = some (0, 40, []) := rfl
theorem la_60 : lay[60]? = some (0, 60, []) := rfl
theorem la_61 : lay[61]? = some (0, 480, []) := rfl
theorem la_62 : lay[62]? = some (0, 8, []) := rfl
theorem la_63 : lay[63]? = some (0, 8, []) := rfl
theorem la_64 : lay[64]? = some (0, 60, []) := rfl
theorem la_65 : lay[65]? = some (0, 9, []) := rfl
theorem la_66 : lay[66]? = some (0, 9, []) := rfl
theorem la_67 : lay[67]? = some (0, 500, []) := rfl
theorem la_68 : lay[68]? = some (0, 500, []) := rfl
theorem la_69 : lay[69]? = some (0, 40, []) := rfl
theorem la_70 : lay[70]? = some (0, 40, []) := rfl
theorem la_71 : lay[71]? = some (0, 5000, []) := rfl
theorem la_72 : lay[72]? = some (0, 19375, []) := rfl
theorem la_73 : lay[73]? = some (0, 19375, []) := rfl
theorem la_74 : lay[74]? = some (0, 625, []) := rfl
theorem la_75 : lay[75]? = some (0, 625, []) := rfl
theorem la_76 : lay[76]? = some (0, 625, []) := rfl
theorem la_77 : lay[77]? = some (0, 24, []) := rfl
theorem la_78 : lay[78]? = some (0, 24, []) := rfl
theorem la_79 : lay[79]? = some (0, 8, []) := rfl
theorem la_80 : lay[80]? = some (0, 8, []) := rfl
theorem la_81 : lay[81]? = some (0, 200, []) := rfl
theorem la_82 : lay[82]? = some (0, 200, []) := rfl
theorem la_83 : lay[83]? = some (0, 200, []) := rfl
theorem la_84 : lay[84]? = some (2, 200, []) := rfl
theorem la_85 : lay[85]? = some (2, 40, []) := rfl
theorem la_86 : lay[86]? = some (0, 12, []) := rfl
theorem la_87 : lay[87]? = some (0, 12, []) := rfl
theorem la_88 : lay[88]? = some (0, 12, []) := rfl
theorem la_89 : lay[89]? = some (0, 12, []) := rfl
theorem la_90 : lay[90]? = some (0, 288, []) := rfl
theorem inG_X0 : ∀ w ∈ u_ws RX0 TX0 11, w ∈ gT := by
  intro w hw
  obtain ⟨k, hk, rfl⟩ := List.mem_map.mp hw
  have hk := List.mem_range.mp hk
  match k, hk with
  | 0, _ => exact gT_of 287 (by decide +kernel) (by decide +kernel)
  | 1, _ => exact gT_of 289 (by decide +kernel) (by decide +kernel)
  | 2, _ => exact gT_of 291 (by decide +kernel) (by decide +kernel)
  | 3, _ => exact gT_of 293 (by decide +kernel) (by decide +kernel)
  | 4, _ => exact gT_of 295 (by decide +kernel) (by decide +kernel)
  | 5, _ => exact gT_of 297 (by decide +kernel) (by decide +kernel)
  | 6, _ => exact gT_of 299 (by decide +kernel) (by decide +kernel)
  | 7, _ => exact gT_of 301 (by decide +kernel) (by decide +kernel)
  | 8, _ => exact gT_of 303 (by decide +kernel) (by decide +kernel)
  | 9, _ => exact gT_of 305 (by decide +kernel) (by decide +kernel)
  | 10, _ => exact gT_of 307 (by decide +kernel) (by decide +kernel)
  | k + 11, h => exact absurd h (by omega)
theorem inG_X1 : ∀ w ∈ u_ws RX1 TX1 7, w ∈ gT := by
  intro w hw
  obtain ⟨k, hk, rfl⟩ := List.mem_map.mp hw
  have hk := List.mem_range.mp hk
  match k, hk with
  | 0, _ => exact gT_of 372 (by decide +kernel) (by decide +kernel)
  | 1, _ => exact gT_of 374 (by decide +kernel) (by decide +kernel)
  | 2, _ => exact gT_of 376 (by decide +kernel) (by decide +kernel)
  | 3, _ => exact gT_of 378 (by decide +kernel) (by decide +kernel)
  | 4, _ => exact gT_of 380 (by decide +kernel) (by decide +kernel)
  | 5, _ => exact gT_of 382 (by decide +kernel) (by decide +kernel)
  | 6, _ => exact gT_of 384 (by decide +kernel) (by decide +kernel)
  | k + 7, h => exact absurd h (by omega)
theorem inG_X2 : ∀ w ∈ u_ws RX2 TX2 13, w ∈ gT := by
  intro w hw
  obtain ⟨k, hk, rfl⟩ := List.mem_map.mp hw
  have hk := List.mem_range.mp hk
  match k, hk with
  | 0, _ => exact gT_of 239 (by decide +kernel) (by decide +kernel)
  | 1, _ => exact gT_of 241 (by decide +kernel) (by decide +kernel)
  | 2, _ => exact gT_of 243 (by decide +kernel) (by decide +kernel)
  | 3, _ => exact gT_of 245 (by decide +kernel) (by decide +kernel)
  | 4, _ => exact gT_of 247 (by decide +kernel) (by decide +kernel)
  | 5, _ => exact gT_of 249 (by decide +kernel) (by decide +kernel)
  | 6, _ => exact gT_of 251 (by decide +kernel) (by decide +kernel)
  | 7, _ => exact gT_of 253 (by decide +kernel) (by decide +kernel)
  | 8, _ => exact gT_of 255 (by decide +kernel) (by decide +kernel)
  | 9, _ => exact gT_of 257 (by decide +kernel) (by decide +kernel)
  | 10, _ => exact gT_of 259 (by decide +kernel) (by decide +kernel)
  | 11, _ => exact gT_of 261 (by decide +kernel) (by decide +kernel)
  | 12, _ => exact gT_of 263 (by decide +kernel) (by decide +kernel)
  | k + 13, h => exact absurd h (by omega)
theorem inG_X3 : ∀ w ∈ u_ws RX3 TX3 6, w ∈ gT := by
  intro w hw
  obtain ⟨k, hk, rfl⟩ := List.mem_map.mp hw
  have hk := List.mem_range.mp hk
  match k, hk with
  | 0, _ => exact gT_of 405 (by decide +kernel) (by decide +kernel)
  | 1, _ => exact gT_of 407 (by decide +kernel) (by decide +kernel)
  | 2, _ => exact gT_of 409 (by decide +kernel) (by decide +kernel)
  | 3, _ => exact gT_of 411 (by decide +kernel) (by decide +kernel)
  | 4, _ => exact gT_of 413 (by decide +kernel) (by decide +kernel)
  | 5, _ => exact gT_of 415 (by decide +kernel) (by decide +kernel)
  | k + 6, h => exact absurd h (by omega)
theorem inG_X4 : ∀ w ∈ u_ws RX4 TX4 13, w ∈ gT := by
  intro w hw
  obtain ⟨k, hk, rfl⟩ := List.mem_map.mp hw
  have hk := List.mem_range.mp hk
  match k, hk with
  | 0, _ => exact gT_of 332 (by decide +kernel) (by decide +kernel)
  | 1, _ => exact gT_of 334 (by decide +kernel) (by decide +kernel)
  | 2, _ => exact gT_of 336 (by decide +kernel) (by decide +kernel)
  | 3, _ => exact gT_of 338 (by decide +kernel) (by decide +kernel)
  | 4, _ => exact gT_of 340 (by decide +kernel) (by decide +kernel)
  | 5, _ => exact gT_of 342 (by decide +kernel) (by decide +kernel)
  | 6, _ => exact gT_of 344 (by decide +kernel) (by decide +kernel)
  | 7, _ => exact gT_of 346 (by decide +kernel) (by decide +kernel)
  | 8, _ => exact gT_of 348 (by decide +kernel) (by decide +kernel)
  | 9, _ => exact gT_of 350 (by decide +kernel) (by decide +kernel)
  | 10, _ => exact gT_of 352 (by decide +kernel) (by decide +kernel)
  | 11, _ => exact gT_of 354 (by decide +kernel) (by decide +kernel)
  | 12, _ => exact gT_of 356 (by decide +kernel) (by decide +kernel)
  | k + 13, h => exact absurd h (by omega)
theorem inG_X5 : ∀ w ∈ u_ws RX5 TX5 16, w ∈ gT := by
  intro w hw
  obtain ⟨k, hk, rfl⟩ := List.mem_map.mp hw
  have hk := List.mem_range.mp hk
  match k, hk with
  | 0, _ => exact gT_of 176 (by decide +kernel) (by decide +kernel)
  | 1, _ => exact gT_of 178 (by decide +kernel) (by decide +kernel)
  | 2, _ => exact gT_of 180 (by decide +kernel) (by decide +kernel)
  | 3, _ => exact gT_of 182 (by decide +kernel) (by decide +kernel)
  | 4, _ => exact gT_of 184 (by decide +kernel) (by decide +kernel)
  | 5, _ => exact gT_of 186 (by decide +kernel) (by decide +kernel)
  | 6, _ => exact gT_of 188 (by decide +kernel) (by decide +kernel)
  | 7, _ => exact gT_of 190 (by decide +kernel) (by decide +kernel)
  | 8, _ => exact gT_of 192 (by decide +kernel) (by decide +kernel)
  | 9, _ => exact gT_of 194 (by decide +kernel) (by decide +kernel)
  | 10, _ => exact gT_of 196 (by decide +kernel) (by decide +kernel)
  | 11, _ => exact gT_of 198 (by decide +kernel) (by decide +kernel)
  | 12, _ => exact gT_of 200 (by decide +kernel) (by decide +kernel)
  | 13, _ => exact gT_of 202 (by decide +kernel) (by decide +kernel)
  | 14, _ => exact gT_of 204 (by decide +kernel) (by decide +kernel)
  | 15, _ => exact gT_of 206 (by decide +kernel) (by decide +kernel)
  | k + 16, h => exact absurd h (by omega)
theorem inG_X6 : ∀ w ∈ u_ws RX6 TX6 8, w ∈ gT := by
  intro w hw
  obtain ⟨k, hk, rfl⟩ := List.mem_map.mp hw
  have hk := List.mem_range.mp hk
  match k, hk with
  | 0, _ => exact gT_of 426 (by decide +kernel) (by decide +kernel)
  | 1, _ => exact gT_of 428 (by decide +kernel) (by decide +kernel)
  | 2, _ => exact gT_of 430 (by decide +kernel) (by decide +kernel)
  | 3, _ => exact gT_of 432 (by decide +kernel) (by decide +kernel)
  | 4, _ => exact gT_of 434 (by decide +kernel) (by decide +kernel)
  | 5, _ => exact gT_of 436 (by decide +kernel) (by decide +kernel)
  | 6, _ => exact gT_of 438 (by decide +kernel) (by decide +kernel)
  | 7, _ => exact gT_of 440 (by decide +kernel) (by decide +kernel)
  | k + 8, h => exact absurd h (by omega)
theorem inG_X7 : ∀ w ∈ u_ws RX7 TX7 60, w ∈ gT := by
  intro w hw
  obtain ⟨k, hk, rfl⟩ := List.mem_map.mp hw
  have hk := List.mem_range.mp hk
  match k, hk with
  | 0, _ => exact gT_of 1021 (by decide +kernel) (by decide +kernel)
  | 1, _ => exact gT_of 1023 (by decide +kernel) (by decide +kernel)
  | 2, _ => exact gT_of 1025 (by decide +kernel) (by decide +kernel)
  | 3, _ => exact gT_of 1027 (by decide +kernel) (by decide +kernel)
  | 4, _ => exact gT_of 1029 (by decide +kernel) (by decide +kernel)
  | 5, _ => exact gT_of 1031 (by decide +kernel) (by decide +kernel)
  | 6, _ => exact gT_of 1033 (by decide +kernel) (by decide +kernel)
  | 7, _ => exact gT_of 1035 (by decide +kernel) (by decide +kernel)
  | 8, _ => exact gT_of 1037 (by decide +kernel) (by decide +kernel)
  | 9, _ => exact gT_of 1039 (by decide +kernel) (by decide +kernel)
  | 10, _ => exact gT_of 1041 (by decide +kernel) (by decide +kernel)
  | 11, _ => exact gT_of 1043 (by decide +kernel) (by decide +kernel)
  | 12, _ => exact gT_of 1045 (by decide +kernel) (by decide +kernel)
  | 13, _ => exact gT_of 1047 (by decide +kernel) (by decide +kernel)
  | 14, _ => exact gT_of 1049 (by decide +kernel) (by decide +kernel)
  | 15, _ => exact gT_of 1051 (by decide +kernel) (by decide +kernel)
  | 16, _ => exact gT_of 1053 (by decide +kernel) (by decide +kernel)
  | 17, _ => exact gT_of 1055 (by decide +kernel) (by decide +kernel)
  | 18, _ => exact gT_of 1057 (by decide +kernel) (by decide +kernel)
  | 19, _ => exact gT_of 1059 (by decide +kernel) (by decide +kernel)
  | 20, _ => exact gT_of 1061 (by decide +kernel) (by decide +kernel)
  | 21, _ => exact gT_of 1063 (by decide +kernel) (by decide +kernel)
  | 22, _ => exact gT_of 1065 (by decide +kernel) (by decide +kernel)
  | 23, _ => exact gT_of 1067 (by decide +kernel) (by decide +kernel)
  | 24, _ => exact gT_of 1069 (by decide +kernel) (by decide +kernel)
  | 25, _ => exact gT_of 1071 (by decide +kernel) (by decide +kernel)
  | 26, _ => exact gT_of 1073 (by decide +kernel) (by decide +kernel)
  | 27, _ => exact gT_of 1075 (by decide +kernel) (by decide +kernel)
  | 28, _ => exact gT_of 1077 (by decide +kernel) (by decide +kernel)
  | 29, _ => exact gT_of 1079 (by decide +kernel) (by decide +kernel)
  | 30, _ => exact gT_of 1081 (by decide +kernel) (by decide +kernel)
  | 31, _ => exact gT_of 1083 (by decide +kernel) (by decide +kernel)
  | 32, _ => exact gT_of 1085 (by decide +kernel) (by decide +kernel)
  | 33, _ => exact gT_of 1087 (by decide +kernel) (by decide +kernel)
  | 34, _ => exact gT_of 1089 (by decide +kernel) (by decide +kernel)
  | 35, _ => exact gT_of 1091 (by decide +kernel) (by decide +kernel)
  | 36, _ => exact gT_of 1093 (by decide +kernel) (by decide +kernel)
  | 37, _ => exact gT_of 1095 (by decide +kernel) (by decide +kernel)
  | 38, _ => exact gT_of 1097 (by decide +kernel) (by decide +kernel)
  | 39, _ => exact gT_of 1099 (by decide +kernel) (by decide +kernel)
  | 40, _ => exact gT_of 1101 (by decide +kernel) (by decide +kernel)
  | 41, _ => exact gT_of 1103 (by decide +kernel) (by decide +kernel)
  | 42, _ => exact gT_of 1105 (by decide +kernel) (by decide +kernel)
  | 43, _ => exact gT_of 1107 (by decide +kernel) (by decide +kernel)
  | 44, _ => exact gT_of 1109 (by decide +kernel) (by decide +kernel)
  | 45, _ => exact gT_of 1111 (by decide +kernel) (by decide +kernel)
  | 46, _ => exact gT_of 1113 (by decide +kernel) (by decide +kernel)
  | 47, _ => exact gT_of 1115 (by decide +kernel) (by decide +kernel)
  | 48, _ => exact gT_of 1117 (by decide +kernel) (by decide +kernel)
  | 49, _ => exact gT_of 1119 (by decide +kernel) (by decide +kernel)
  | 50, _ => exact gT_of 1121 (by decide +kernel) (by decide +kernel)
  | 51, _ => exact gT_of 1123 (by decide +kernel) (by decide +kernel)
  | 52, _ => exact gT_of 1125 (by decide +kernel) (by decide +kernel)
  | 53, _ => exact gT_of 1127 (by decide +kernel) (by decide +kernel)
  | 54, _ => exact gT_of 1129 (by decide +kernel) (by decide +kernel)
  | 55, _ => exact gT_of 1131 (by decide +kernel) (by decide +kernel)
  | 56, _ => exact gT_of 1133 (by decide +kernel) (by decide +kernel)
  | 57, _ => exact gT_of 1135 (by decide +kernel) (by decide +kernel)
  | 58, _ => exact gT_of 1137 (by decide +kernel) (by decide +kernel)
  | 59, _ => exact gT_of 1139 (by decide +kernel) (by decide +kernel)
  | k + 60, h => exact absurd h (by omega)
theorem lk_X0_9 : LK RX0 9 TX0 0 := Or.inl (gT_of 272 (by decide +kernel) (by decide +kernel))
theorem lk_X0_15 : LK RX0 15 TX0 1 := Or.inl (gT_of 273 (by decide +kernel) (by decide +kernel))
theorem lk_X0_18 : LK RX0 18 TX0 2 := Or.inl (gT_of 275 (by decide +kernel) (by decide +kernel))
theorem lk_X0_22 : LK RX0 22 TX0 3 := Or.inl (gT_of 277 (by decide +kernel) (by decide +kernel))
theorem lk_X0_25 : LK RX0 25 TX0 4 := Or.inl (gT_of 278 (by decide +kernel) (by decide +kernel))
theorem lk_X0_28 : LK RX0 28 TX0 5 := Or.inl (gT_of 279 (by decide +kernel) (by decide +kernel))
theorem lk_X0_31 : LK RX0 31 TX0 6 := Or.inl (gT_of 280 (by decide +kernel) (by decide +kernel))
theorem lk_X0_35 : LK RX0 35 TX0 7 := Or.inl (gT_of 281 (by decide +kernel) (by decide +kernel))
theorem lk_X0_38 : LK RX0 38 TX0 8 := Or.inl (gT_of 283 (by decide +kernel) (by decide +kernel))
theorem lk_X0_41 : LK RX0 41 TX0 9 := Or.inl (gT_of 284 (by decide +kernel) (by decide +kernel))
theorem lk_X0_45 : LK RX0 45 TX0 10 := Or.inl (gT_of 286 (by decide +kernel) (by decide +kernel))
theorem lk_X1_11 : LK RX1 11 TX1 2 := Or.inl (gT_of 367 (by decide +kernel) (by decide +kernel))
theorem lk_X1_15 : LK RX1 15 TX1 3 := Or.inl (gT_of 368 (by decide +kernel) (by decide +kernel))
theorem lk_X1_18 : LK RX1 18 TX1 4 := Or.inl (gT_of 369 (by decide +kernel) (by decide +kernel))
theorem lk_X1_22 : LK RX1 22 TX1 5 := Or.inl (gT_of 370 (by decide +kernel) (by decide +kernel))
theorem lk_X1_26 : LK RX1 26 TX1 6 := Or.inl (gT_of 371 (by decide +kernel) (by decide +kernel))
theorem lk_X1_29 : LK RX1 29 TX1 0 := Or.inl (gT_of 365 (by decide +kernel) (by decide +kernel))
theorem lk_X1_33 : LK RX1 33 TX1 1 := Or.inl (gT_of 366 (by decide +kernel) (by decide +kernel))
theorem lk_X1_37 : LK RX1 37 TX5 10 := Or.inr ⟨"LongSong", List.mem_of_getElem? (i := 164) (by decide +kernel)⟩
theorem lk_X1_59 : LK RX1 59 TX2 11 := Or.inr ⟨"LongSong", List.mem_of_getElem? (i := 233) (by decide +kernel)⟩
theorem lk_X1_62 : LK RX1 62 TX2 10 := Or.inr ⟨"LongSong", List.mem_of_getElem? (i := 231) (by decide +kernel)⟩
theorem lk_X1_89 : LK RX1 89 TX2 8 := Or.inr ⟨"LongSong", List.mem_of_getElem? (i := 228) (by decide +kernel)⟩
theorem lk_X1_127 : LK RX1 127 TX2 12 := Or.inr ⟨"LongSong", List.mem_of_getElem? (i := 238) (by decide +kernel)⟩
theorem lk_X2_9 : LK RX2 9 TX2 0 := Or.inl (gT_of 217 (by decide +kernel) (by decide +kernel))
theorem lk_X2_15 : LK RX2 15 TX2 1 := Or.inl (gT_of 218 (by decide +kernel) (by decide +kernel))
theorem lk_X2_19 : LK RX2 19 TX2 2 := Or.inl (gT_of 220 (by decide +kernel) (by decide +kernel))
theorem lk_X2_22 : LK RX2 22 TX2 3 := Or.inl (gT_of 221 (by decide +kernel) (by decide +kernel))
theorem lk_X2_25 : LK RX2 25 TX2 4 := Or.inl (gT_of 222 (by decide +kernel) (by decide +kernel))
theorem lk_X2_28 : LK RX2 28 TX2 5 := Or.inl (gT_of 223 (by decide +kernel) (by decide +kernel))
theorem lk_X2_32 : LK RX2 32 TX2 6 := Or.inl (gT_of 224 (by decide +kernel) (by decide +kernel))
theorem lk_X2_35 : LK RX2 35 TX2 7 := Or.inl (gT_of 225 (by decide +kernel) (by decide +kernel))
theorem lk_X2_38 : LK RX2 38 TX2 8 := Or.inl (gT_of 226 (by decide +kernel) (by decide +kernel))
theorem lk_X2_41 : LK RX2 41 TX2 9 := Or.inl (gT_of 229 (by decide +kernel) (by decide +kernel))
theorem lk_X2_44 : LK RX2 44 TX2 10 := Or.inl (gT_of 230 (by decide +kernel) (by decide +kernel))
theorem lk_X2_47 : LK RX2 47 TX2 11 := Or.inl (gT_of 232 (by decide +kernel) (by decide +kernel))
theorem lk_X3_9 : LK RX3 9 TX3 0 := Or.inl (gT_of 393 (by decide +kernel) (by decide +kernel))
theorem lk_X3_15 : LK RX3 15 TX3 1 := Or.inl (gT_of 395 (by decide +kernel) (by decide +kernel))
theorem lk_X3_18 : LK RX3 18 TX3 2 := Or.inl (gT_of 397 (by decide +kernel) (by decide +kernel))
theorem lk_X3_21 : LK RX3 21 TX3 3 := Or.inl (gT_of 399 (by decide +kernel) (by decide +kernel))
theorem lk_X3_24 : LK RX3 24 TX3 4 := Or.inl (gT_of 401 (by decide +kernel) (by decide +kernel))
theorem lk_X3_27 : LK RX3 27 TX3 5 := Or.inl (gT_of 403 (by decide +kernel) (by decide +kernel))
theorem lk_X4_9 : LK RX4 9 TX4 2 := Or.inl (gT_of 319 (by decide +kernel) (by decide +kernel))
theorem lk_X4_15 : LK RX4 15 TX4 3 := Or.inl (gT_of 321 (by decide +kernel) (by decide +kernel))
theorem lk_X4_19 : LK RX4 19 TX4 4 := Or.inl (gT_of 323 (by decide +kernel) (by decide +kernel))
theorem lk_X4_22 : LK RX4 22 TX4 5 := Or.inl (gT_of 324 (by decide +kernel) (by decide +kernel))
theorem lk_X4_25 : LK RX4 25 TX4 6 := Or.inl (gT_of 325 (by decide +kernel) (by decide +kernel))
theorem lk_X4_28 : LK RX4 28 TX4 7 := Or.inl (gT_of 326 (by decide +kernel) (by decide +kernel))
theorem lk_X4_31 : LK RX4 31 TX4 8 := Or.inl (gT_of 327 (by decide +kernel) (by decide +kernel))
theorem lk_X4_34 : LK RX4 34 TX4 9 := Or.inl (gT_of 328 (by decide +kernel) (by decide +kernel))
theorem lk_X4_37 : LK RX4 37 TX4 10 := Or.inl (gT_of 329 (by decide +kernel) (by decide +kernel))
theorem lk_X4_40 : LK RX4 40 TX4 11 := Or.inl (gT_of 330 (by decide +kernel) (by decide +kernel))
theorem lk_X4_44 : LK RX4 44 TX4 12 := Or.inl (gT_of 331 (by decide +kernel) (by decide +kernel))
theorem lk_X4_47 : LK RX4 47 TX4 0 := Or.inl (gT_of 317 (by decide +kernel) (by decide +kernel))
theorem lk_X4_51 : LK RX4 51 TX4 1 := Or.inl (gT_of 318 (by decide +kernel) (by decide +kernel))
theorem lk_X4_60 : LK RX4 60 TX2 8 := Or.inr ⟨"LongSong", List.mem_of_getElem? (i := 227) (by decide +kernel)⟩
theorem lk_X4_107 : LK RX4 107 TX2 12 := Or.inr ⟨"LongSong", List.mem_of_getElem? (i := 236) (by decide +kernel)⟩
theorem lk_X4_114 : LK RX4 114 TX5 10 := Or.inr ⟨"LongSong", List.mem_of_getElem? (i := 165) (by decide +kernel)⟩
theorem lk_X5_9 : LK RX5 9 TX5 0 := Or.inl (gT_of 146 (by decide +kernel) (by decide +kernel))
theorem lk_X5_15 : LK RX5 15 TX5 1 := Or.inl (gT_of 147 (by decide +kernel) (by decide +kernel))
theorem lk_X5_18 : LK RX5 18 TX5 2 := Or.inl (gT_of 148 (by decide +kernel) (by decide +kernel))
theorem lk_X5_21 : LK RX5 21 TX5 3 := Or.inl (gT_of 149 (by decide +kernel) (by decide +kernel))
theorem lk_X5_25 : LK RX5 25 TX5 4 := Or.inl (gT_of 151 (by decide +kernel) (by decide +kernel))
theorem lk_X5_28 : LK RX5 28 TX5 5 := Or.inl (gT_of 153 (by decide +kernel) (by decide +kernel))
theorem lk_X5_31 : LK RX5 31 TX5 6 := Or.inl (gT_of 155 (by decide +kernel) (by decide +kernel))
theorem lk_X5_34 : LK RX5 34 TX5 7 := Or.inl (gT_of 157 (by decide +kernel) (by decide +kernel))
theorem lk_X5_37 : LK RX5 37 TX5 8 := Or.inl (gT_of 159 (by decide +kernel) (by decide +kernel))
theorem lk_X5_40 : LK RX5 40 TX5 9 := Or.inl (gT_of 161 (by decide +kernel) (by decide +kernel))
theorem lk_X5_43 : LK RX5 43 TX5 10 := Or.inl (gT_of 163 (by decide +kernel) (by decide +kernel))
theorem lk_X5_47 : LK RX5 47 TX5 11 := Or.inl (gT_of 166 (by decide +kernel) (by decide +kernel))
theorem lk_X5_51 : LK RX5 51 TX5 12 := Or.inl (gT_of 168 (by decide +kernel) (by decide +kernel))
theorem lk_X5_54 : LK RX5 54 TX5 13 := Or.inl (gT_of 170 (by decide +kernel) (by decide +kernel))
theorem lk_X5_57 : LK RX5 57 TX5 14 := Or.inl (gT_of 172 (by decide +kernel) (by decide +kernel))
theorem lk_X5_60 : LK RX5 60 TX5 15 := Or.inl (gT_of 174 (by decide +kernel) (by decide +kernel))
theorem lk_X6_10 : LK RX6 10 TX6 0 := Or.inl (gT_of 418 (by decide +kernel) (by decide +kernel))
theorem lk_X6_19 : LK RX6 19 TX6 1 := Or.inl (gT_of 419 (by decide +kernel) (by decide +kernel))
theorem lk_X6_26 : LK RX6 26 TX6 2 := Or.inl (gT_of 420 (by decide +kernel) (by decide +kernel))
theorem lk_X6_35 : LK RX6 35 TX6 3 := Or.inl (gT_of 421 (by decide +kernel) (by decide +kernel))
theorem lk_X6_42 : LK RX6 42 TX6 4 := Or.inl (gT_of 422 (by decide +kernel) (by decide +kernel))
theorem lk_X6_49 : LK RX6 49 TX6 5 := Or.inl (gT_of 423 (by decide +kernel) (by decide +kernel))
theorem lk_X6_53 : LK RX6 53 TX6 6 := Or.inl (gT_of 424 (by decide +kernel) (by decide +kernel))
theorem lk_X6_57 : LK RX6 57 TX6 7 := Or.inl (gT_of 425 (by decide +kernel) (by decide +kernel))
theorem lk_X6_69 : LK RX6 69 TX5 3 := Or.inr ⟨"LongSong", List.mem_of_getElem? (i := 150) (by decide +kernel)⟩
theorem lk_X6_76 : LK RX6 76 TX5 4 := Or.inr ⟨"LongSong", List.mem_of_getElem? (i := 152) (by decide +kernel)⟩
theorem lk_X6_79 : LK RX6 79 TX5 5 := Or.inr ⟨"LongSong", List.mem_of_getElem? (i := 154) (by decide +kernel)⟩
theorem lk_X6_86 : LK RX6 86 TX5 12 := Or.inr ⟨"LongSong", List.mem_of_getElem? (i := 169) (by decide +kernel)⟩
theorem lk_X6_93 : LK RX6 93 TX5 13 := Or.inr ⟨"LongSong", List.mem_of_getElem? (i := 171) (by decide +kernel)⟩
theorem lk_X6_99 : LK RX6 99 TX5 6 := Or.inr ⟨"LongSong", List.mem_of_getElem? (i := 156) (by decide +kernel)⟩
theorem lk_X6_102 : LK RX6 102 TX5 7 := Or.inr ⟨"LongSong", List.mem_of_getElem? (i := 158) (by decide +kernel)⟩
theorem lk_X6_105 : LK RX6 105 TX5 8 := Or.inr ⟨"LongSong", List.mem_of_getElem? (i := 160) (by decide +kernel)⟩
theorem lk_X6_108 : LK RX6 108 TX5 9 := Or.inr ⟨"LongSong", List.mem_of_getElem? (i := 162) (by decide +kernel)⟩
theorem lk_X6_111 : LK RX6 111 TX5 11 := Or.inr ⟨"LongSong", List.mem_of_getElem? (i := 167) (by decide +kernel)⟩
theorem lk_X6_133 : LK RX6 133 TX5 14 := Or.inr ⟨"LongSong", List.mem_of_getElem? (i := 173) (by decide +kernel)⟩
theorem lk_X6_136 : LK RX6 136 TX5 15 := Or.inr ⟨"LongSong", List.mem_of_getElem? (i := 175) (by decide +kernel)⟩
theorem lk_X6_143 : LK RX6 143 TX2 1 := Or.inr ⟨"LongSong", List.mem_of_getElem? (i := 219) (by decide +kernel)⟩
theorem lk_X6_153 : LK RX6 153 TX2 12 := Or.inr ⟨"LongSong", List.mem_of_getElem? (i := 237) (by decide +kernel)⟩
theorem lk_X6_173 : LK RX6 173 TX4 3 := Or.inr ⟨"LongSong", List.mem_of_getElem? (i := 322) (by decide +kernel)⟩
theorem lk_X6_176 : LK RX6 176 TX4 2 := Or.inr ⟨"LongSong", List.mem_of_getElem? (i := 320) (by decide +kernel)⟩
theorem lk_X6_179 : LK RX6 179 TX0 2 := Or.inr ⟨"LongSong", List.mem_of_getElem? (i := 276) (by decide +kernel)⟩
theorem lk_X6_185 : LK RX6 185 TX0 1 := Or.inr ⟨"LongSong", List.mem_of_getElem? (i := 274) (by decide +kernel)⟩
theorem lk_X6_188 : LK RX6 188 TX0 7 := Or.inr ⟨"LongSong", List.mem_of_getElem? (i := 282) (by decide +kernel)⟩
theorem lk_X6_214 : LK RX6 214 TX0 9 := Or.inr ⟨"LongSong", List.mem_of_getElem? (i := 285) (by decide +kernel)⟩
theorem lk_X6_244 : LK RX6 244 TX3 5 := Or.inr ⟨"LongSong", List.mem_of_getElem? (i := 404) (by decide +kernel)⟩
theorem lk_X6_257 : LK RX6 257 TX3 1 := Or.inr ⟨"LongSong", List.mem_of_getElem? (i := 396) (by decide +kernel)⟩
theorem lk_X6_271 : LK RX6 271 TX3 3 := Or.inr ⟨"LongSong", List.mem_of_getElem? (i := 400) (by decide +kernel)⟩
theorem lk_X6_280 : LK RX6 280 TX2 11 := Or.inr ⟨"LongSong", List.mem_of_getElem? (i := 234) (by decide +kernel)⟩
theorem lk_X6_286 : LK RX6 286 TX3 0 := Or.inr ⟨"LongSong", List.mem_of_getElem? (i := 394) (by decide +kernel)⟩
theorem lk_X6_289 : LK RX6 289 TX3 2 := Or.inr ⟨"LongSong", List.mem_of_getElem? (i := 398) (by decide +kernel)⟩
theorem lk_X6_292 : LK RX6 292 TX3 4 := Or.inr ⟨"LongSong", List.mem_of_getElem? (i := 402) (by decide +kernel)⟩
theorem lk_X7_7 : LK RX7 7 TX7 0 := Or.inl (gT_of 961 (by decide +kernel) (by decide +kernel))
theorem lk_X7_13 : LK RX7 13 TX7 1 := Or.inl (gT_of 962 (by decide +kernel) (by decide +kernel))
theorem lk_X7_16 : LK RX7 16 TX7 2 := Or.inl (gT_of 963 (by decide +kernel) (by decide +kernel))
theorem lk_X7_19 : LK RX7 19 TX7 3 := Or.inl (gT_of 964 (by decide +kernel) (by decide +kernel))
theorem lk_X7_22 : LK RX7 22 TX7 4 := Or.inl (gT_of 965 (by decide +kernel) (by decide +kernel))
theorem lk_X7_25 : LK RX7 25 TX7 5 := Or.inl (gT_of 966 (by decide +kernel) (by decide +kernel))
theorem lk_X7_28 : LK RX7 28 TX7 6 := Or.inl (gT_of 967 (by decide +kernel) (by decide +kernel))
theorem lk_X7_31 : LK RX7 31 TX7 7 := Or.inl (gT_of 968 (by decide +kernel) (by decide +kernel))
theorem lk_X7_34 : LK RX7 34 TX7 8 := Or.inl (gT_of 969 (by decide +kernel) (by decide +kernel))
theorem lk_X7_37 : LK RX7 37 TX7 9 := Or.inl (gT_of 970 (by decide +kernel) (by decide +kernel))
theorem lk_X7_40 : LK RX7 40 TX7 10 := Or.inl (gT_of 971 (by decide +kernel) (by decide +kernel))
theorem lk_X7_43 : LK RX7 43 TX7 13 := Or.inl (gT_of 974 (by decide +kernel) (by decide +kernel))
theorem lk_X7_46 : LK RX7 46 TX7 15 := Or.inl (gT_of 976 (by decide +kernel) (by decide +kernel))
theorem lk_X7_49 : LK RX7 49 TX7 16 := Or.inl (gT_of 977 (by decide +kernel) (by decide +kernel))
theorem lk_X7_52 : LK RX7 52 TX7 17 := Or.inl (gT_of 978 (by decide +kernel) (by decide +kernel))
theorem lk_X7_55 : LK RX7 55 TX7 18 := Or.inl (gT_of 979 (by decide +kernel) (by decide +kernel))
theorem lk_X7_58 : LK RX7 58 TX7 19 := Or.inl (gT_of 980 (by decide +kernel) (by decide +kernel))
theorem lk_X7_61 : LK RX7 61 TX7 24 := Or.inl (gT_of 985 (by decide +kernel) (by decide +kernel))
theorem lk_X7_65 : LK RX7 65 TX7 26 := Or.inl (gT_of 987 (by decide +kernel) (by decide +kernel))
theorem lk_X7_68 : LK RX7 68 TX7 27 := Or.inl (gT_of 988 (by decide +kernel) (by decide +kernel))
theorem lk_X7_71 : LK RX7 71 TX7 28 := Or.inl (gT_of 989 (by decide +kernel) (by decide +kernel))
theorem lk_X7_74 : LK RX7 74 TX7 29 := Or.inl (gT_of 990 (by decide +kernel) (by decide +kernel))
theorem lk_X7_77 : LK RX7 77 TX7 30 := Or.inl (gT_of 991 (by decide +kernel) (by decide +kernel))
theorem lk_X7_80 : LK RX7 80 TX7 31 := Or.inl (gT_of 992 (by decide +kernel) (by decide +kernel))
theorem lk_X7_83 : LK RX7 83 TX7 35 := Or.inl (gT_of 996 (by decide +kernel) (by decide +kernel))
theorem lk_X7_86 : LK RX7 86 TX7 36 := Or.inl (gT_of 997 (by decide +kernel) (by decide +kernel))
theorem lk_X7_89 : LK RX7 89 TX7 37 := Or.inl (gT_of 998 (by decide +kernel) (by decide +kernel))
theorem lk_X7_92 : LK RX7 92 TX7 38 := Or.inl (gT_of 999 (by decide +kernel) (by decide +kernel))
theorem lk_X7_95 : LK RX7 95 TX7 39 := Or.inl (gT_of 1000 (by decide +kernel) (by decide +kernel))
theorem lk_X7_98 : LK RX7 98 TX7 40 := Or.inl (gT_of 1001 (by decide +kernel) (by decide +kernel))
theorem lk_X7_101 : LK RX7 101 TX7 41 := Or.inl (gT_of 1002 (by decide +kernel) (by decide +kernel))
theorem lk_X7_104 : LK RX7 104 TX7 42 := Or.inl (gT_of 1003 (by decide +kernel) (by decide +kernel))
theorem lk_X7_107 : LK RX7 107 TX7 45 := Or.inl (gT_of 1006 (by decide +kernel) (by decide +kernel))
theorem lk_X7_110 : LK RX7 110 TX7 46 := Or.inl (gT_of 1007 (by decide +kernel) (by decide +kernel))
theorem lk_X7_113 : LK RX7 113 TX7 47 := Or.inl (gT_of 1008 (by decide +kernel) (by decide +kernel))
theorem lk_X7_116 : LK RX7 116 TX7 48 := Or.inl (gT_of 1009 (by decide +kernel) (by decide +kernel))
theorem lk_X7_119 : LK RX7 119 TX7 49 := Or.inl (gT_of 1010 (by decide +kernel) (by decide +kernel))
theorem lk_X7_122 : LK RX7 122 TX7 50 := Or.inl (gT_of 1011 (by decide +kernel) (by decide +kernel))
theorem lk_X7_126 : LK RX7 126 TX7 51 := Or.inl (gT_of 1012 (by decide +kernel) (by decide +kernel))
theorem lk_X7_129 : LK RX7 129 TX7 54 := Or.inl (gT_of 1015 (by decide +kernel) (by decide +kernel))
theorem lk_X7_132 : LK RX7 132 TX7 55 := Or.inl (gT_of 1016 (by decide +kernel) (by decide +kernel))
theorem lk_X7_135 : LK RX7 135 TX7 56 := Or.inl (gT_of 1017 (by decide +kernel) (by decide +kernel))
theorem lk_X7_138 : LK RX7 138 TX7 57 := Or.inl (gT_of 1018 (by decide +kernel) (by decide +kernel))
theorem lk_X7_141 : LK RX7 141 TX7 58 := Or.inl (gT_of 1019 (by decide +kernel) (by decide +kernel))
theorem lk_X7_144 : LK RX7 144 TX7 11 := Or.inl (gT_of 972 (by decide +kernel) (by decide +kernel))
theorem lk_X7_147 : LK RX7 147 TX7 12 := Or.inl (gT_of 973 (by decide +kernel) (by decide +kernel))
theorem lk_X7_193 : LK RX7 193 TX7 14 := Or.inl (gT_of 975 (by decide +kernel) (by decide +kernel))
theorem lk_X7_199 : LK RX7 199 TX7 20 := Or.inl (gT_of 981 (by decide +kernel) (by decide +kernel))
theorem lk_X7_204 : LK RX7 204 TX7 21 := Or.inl (gT_of 982 (by decide +kernel) (by decide +kernel))
theorem lk_X7_207 : LK RX7 207 TX7 22 := Or.inl (gT_of 983 (by decide +kernel) (by decide +kernel))
theorem lk_X7_223 : LK RX7 223 TX7 25 := Or.inl (gT_of 986 (by decide +kernel) (by decide +kernel))
theorem lk_X7_232 : LK RX7 232 TX7 23 := Or.inl (gT_of 984 (by decide +kernel) (by decide +kernel))
theorem lk_X7_237 : LK RX7 237 TX7 34 := Or.inl (gT_of 995 (by decide +kernel) (by decide +kernel))
theorem lk_X7_241 : LK RX7 241 TX7 33 := Or.inl (gT_of 994 (by decide +kernel) (by decide +kernel))
theorem lk_X7_266 : LK RX7 266 TX7 53 := Or.inl (gT_of 1014 (by decide +kernel) (by decide +kernel))
theorem lk_X7_276 : LK RX7 276 TX7 32 := Or.inl (gT_of 993 (by decide +kernel) (by decide +kernel))
theorem lk_X7_282 : LK RX7 282 TX7 44 := Or.inl (gT_of 1005 (by decide +kernel) (by decide +kernel))
theorem lk_X7_313 : LK RX7 313 TX7 52 := Or.inl (gT_of 1013 (by decide +kernel) (by decide +kernel))
theorem lk_X7_339 : LK RX7 339 TX7 43 := Or.inl (gT_of 1004 (by decide +kernel) (by decide +kernel))
theorem lk_X7_352 : LK RX7 352 TX7 59 := Or.inl (gT_of 1020 (by decide +kernel) (by decide +kernel))
theorem f_X0_9 : FL RX0 9 23 0 26 := ⟨0, _, _, _, _, rfl, rfl, rfl, by decide, inG_X0, lk_X0_9⟩
theorem f_X0_15 : FL RX0 15 23 1 27 := ⟨0, _, _, _, _, rfl, rfl, rfl, by decide, inG_X0, lk_X0_15⟩
theorem f_X0_18 : FL RX0 18 23 2 0 := ⟨0, _, _, _, _, rfl, rfl, rfl, by decide, inG_X0, lk_X0_18⟩
theorem f_X0_22 : FL RX0 22 23 3 28 := ⟨0, _, _, _, _, rfl, rfl, rfl, by decide, inG_X0, lk_X0_22⟩
theorem f_X0_25 : FL RX0 25 23 4 29 := ⟨0, _, _, _, _, rfl, rfl, rfl, by decide, inG_X0, lk_X0_25⟩
theorem f_X0_28 : FL RX0 28 23 5 30 := ⟨0, _, _, _, _, rfl, rfl, rfl, by decide, inG_X0, lk_X0_28⟩
theorem f_X0_31 : FL RX0 31 23 6 31 := ⟨0, _, _, _, _, rfl, rfl, rfl, by decide, inG_X0, lk_X0_31⟩
theorem f_X0_35 : FL RX0 35 23 7 0 := ⟨0, _, _, _, _, rfl, rfl, rfl, by decide, inG_X0, lk_X0_35⟩
theorem f_X0_38 : FL RX0 38 23 8 32 := ⟨0, _, _, _, _, rfl, rfl, rfl, by decide, inG_X0, lk_X0_38⟩
theorem f_X0_41 : FL RX0 41 23 9 33 := ⟨0, _, _, _, _, rfl, rfl, rfl, by decide, inG_X0, lk_X0_41⟩
theorem f_X0_45 : FL RX0 45 23 10 34 := ⟨0, _, _, _, _, rfl, rfl, rfl, by decide, inG_X0, lk_X0_45⟩
theorem f_X1_11 : FL RX1 11 37 2 40 := ⟨1, _, _, _, _, rfl, rfl, rfl, by decide, inG_X1, lk_X1_11⟩
theorem f_X1_15 : FL RX1 15 37 3 41 := ⟨1, _, _, _, _, rfl, rfl, rfl, by decide, inG_X1, lk_X1_15⟩
theorem f_X1_18 : FL RX1 18 37 4 1 := ⟨1, _, _, _, _, rfl, rfl, rfl, by decide, inG_X1, lk_X1_18⟩
theorem f_X1_22 : FL RX1 22 37 5 0 := ⟨1, _, _, _, _, rfl, rfl, rfl, by decide, inG_X1, lk_X1_22⟩
theorem f_X1_26 : FL RX1 26 37 6 0 := ⟨1, _, _, _, _, rfl, rfl, rfl, by decide, inG_X1, lk_X1_26⟩
theorem f_X1_29 : FL RX1 29 37 0 3 := ⟨1, _, _, _, _, rfl, rfl, rfl, by decide, inG_X1, lk_X1_29⟩
theorem f_X1_33 : FL RX1 33 37 1 16 := ⟨1, _, _, _, _, rfl, rfl, rfl, by decide, inG_X1, lk_X1_33⟩
theorem f_X1_37 : FL RX1 37 1 10 13 := ⟨5, _, _, _, _, rfl, rfl, rfl, by decide, inG_X5, lk_X1_37⟩
theorem f_X1_59 : FL RX1 59 14 11 0 := ⟨2, _, _, _, _, rfl, rfl, rfl, by decide, inG_X2, lk_X1_59⟩
theorem f_X1_62 : FL RX1 62 14 10 24 := ⟨2, _, _, _, _, rfl, rfl, rfl, by decide, inG_X2, lk_X1_62⟩
theorem f_X1_89 : FL RX1 89 14 8 22 := ⟨2, _, _, _, _, rfl, rfl, rfl, by decide, inG_X2, lk_X1_89⟩
theorem f_X1_127 : FL RX1 127 14 12 0 := ⟨2, _, _, _, _, rfl, rfl, rfl, by decide, inG_X2, lk_X1_127⟩
theorem f_X2_9 : FL RX2 9 14 0 17 := ⟨2, _, _, _, _, rfl, rfl, rfl, by decide, inG_X2, lk_X2_9⟩
theorem f_X2_15 : FL RX2 15 14 1 0 := ⟨2, _, _, _, _, rfl, rfl, rfl, by decide, inG_X2, lk_X2_15⟩
theorem f_X2_19 : FL RX2 19 14 2 18 := ⟨2, _, _, _, _, rfl, rfl, rfl, by decide, inG_X2, lk_X2_19⟩
theorem f_X2_22 : FL RX2 22 14 3 19 := ⟨2, _, _, _, _, rfl, rfl, rfl, by decide, inG_X2, lk_X2_22⟩
theorem f_X2_25 : FL RX2 25 14 4 0 := ⟨2, _, _, _, _, rfl, rfl, rfl, by decide, inG_X2, lk_X2_25⟩
theorem f_X2_28 : FL RX2 28 14 5 0 := ⟨2, _, _, _, _, rfl, rfl, rfl, by decide, inG_X2, lk_X2_28⟩
theorem f_X2_32 : FL RX2 32 14 6 20 := ⟨2, _, _, _, _, rfl, rfl, rfl, by decide, inG_X2, lk_X2_32⟩
theorem f_X2_35 : FL RX2 35 14 7 21 := ⟨2, _, _, _, _, rfl, rfl, rfl, by decide, inG_X2, lk_X2_35⟩
theorem f_X2_38 : FL RX2 38 14 8 22 := ⟨2, _, _, _, _, rfl, rfl, rfl, by decide, inG_X2, lk_X2_38⟩
theorem f_X2_41 : FL RX2 41 14 9 23 := ⟨2, _, _, _, _, rfl, rfl, rfl, by decide, inG_X2, lk_X2_41⟩
theorem f_X2_44 : FL RX2 44 14 10 24 := ⟨2, _, _, _, _, rfl, rfl, rfl, by decide, inG_X2, lk_X2_44⟩
theorem f_X2_47 : FL RX2 47 14 11 0 := ⟨2, _, _, _, _, rfl, rfl, rfl, by decide, inG_X2, lk_X2_47⟩
theorem f_X3_9 : FL RX3 9 40 0 43 := ⟨3, _, _, _, _, rfl, rfl, rfl, by decide, inG_X3, lk_X3_9⟩
theorem f_X3_15 : FL RX3 15 40 1 44 := ⟨3, _, _, _, _, rfl, rfl, rfl, by decide, inG_X3, lk_X3_15⟩
theorem f_X3_18 : FL RX3 18 40 2 45 := ⟨3, _, _, _, _, rfl, rfl, rfl, by decide, inG_X3, lk_X3_18⟩
theorem f_X3_21 : FL RX3 21 40 3 46 := ⟨3, _, _, _, _, rfl, rfl, rfl, by decide, inG_X3, lk_X3_21⟩
theorem f_X3_24 : FL RX3 24 40 4 47 := ⟨3, _, _, _, _, rfl, rfl, rfl, by decide, inG_X3, lk_X3_24⟩
theorem f_X3_27 : FL RX3 27 40 5 0 := ⟨3, _, _, _, _, rfl, rfl, rfl, by decide, inG_X3, lk_X3_27⟩
theorem f_X4_9 : FL RX4 9 33 2 36 := ⟨4, _, _, _, _, rfl, rfl, rfl, by decide, inG_X4, lk_X4_9⟩
theorem f_X4_19 : FL RX4 19 33 4 37 := ⟨4, _, _, _, _, rfl, rfl, rfl, by decide, inG_X4, lk_X4_19⟩
theorem f_X4_22 : FL RX4 22 33 5 0 := ⟨4, _, _, _, _, rfl, rfl, rfl, by decide, inG_X4, lk_X4_22⟩
theorem f_X4_25 : FL RX4 25 33 6 38 := ⟨4, _, _, _, _, rfl, rfl, rfl, by decide, inG_X4, lk_X4_25⟩
theorem f_X4_28 : FL RX4 28 33 7 0 := ⟨4, _, _, _, _, rfl, rfl, rfl, by decide, inG_X4, lk_X4_28⟩
theorem f_X4_31 : FL RX4 31 33 8 0 := ⟨4, _, _, _, _, rfl, rfl, rfl, by decide, inG_X4, lk_X4_31⟩
theorem f_X4_34 : FL RX4 34 33 9 0 := ⟨4, _, _, _, _, rfl, rfl, rfl, by decide, inG_X4, lk_X4_34⟩
theorem f_X4_37 : FL RX4 37 33 10 0 := ⟨4, _, _, _, _, rfl, rfl, rfl, by decide, inG_X4, lk_X4_37⟩
theorem f_X4_40 : FL RX4 40 33 11 1 := ⟨4, _, _, _, _, rfl, rfl, rfl, by decide, inG_X4, lk_X4_40⟩
theorem f_X4_44 : FL RX4 44 33 12 1 := ⟨4, _, _, _, _, rfl, rfl, rfl, by decide, inG_X4, lk_X4_44⟩
theorem f_X4_47 : FL RX4 47 33 0 3 := ⟨4, _, _, _, _, rfl, rfl, rfl, by decide, inG_X4, lk_X4_47⟩
theorem f_X4_51 : FL RX4 51 33 1 16 := ⟨4, _, _, _, _, rfl, rfl, rfl, by decide, inG_X4, lk_X4_51⟩
theorem f_X4_60 : FL RX4 60 14 8 22 := ⟨2, _, _, _, _, rfl, rfl, rfl, by decide, inG_X2, lk_X4_60⟩
theorem f_X4_107 : FL RX4 107 14 12 0 := ⟨2, _, _, _, _, rfl, rfl, rfl, by decide, inG_X2, lk_X4_107⟩
theorem f_X4_114 : FL RX4 114 1 10 13 := ⟨5, _, _, _, _, rfl, rfl, rfl, by decide, inG_X5, lk_X4_114⟩
theorem f_X5_9 : FL RX5 9 1 0 4 := ⟨5, _, _, _, _, rfl, rfl, rfl, by decide, inG_X5, lk_X5_9⟩
theorem f_X5_15 : FL RX5 15 1 1 5 := ⟨5, _, _, _, _, rfl, rfl, rfl, by decide, inG_X5, lk_X5_15⟩
theorem f_X5_18 : FL RX5 18 1 2 6 := ⟨5, _, _, _, _, rfl, rfl, rfl, by decide, inG_X5, lk_X5_18⟩
theorem f_X5_21 : FL RX5 21 1 3 0 := ⟨5, _, _, _, _, rfl, rfl, rfl, by decide, inG_X5, lk_X5_21⟩
theorem f_X5_25 : FL RX5 25 1 4 7 := ⟨5, _, _, _, _, rfl, rfl, rfl, by decide, inG_X5, lk_X5_25⟩
theorem f_X5_28 : FL RX5 28 1 5 8 := ⟨5, _, _, _, _, rfl, rfl, rfl, by decide, inG_X5, lk_X5_28⟩
theorem f_X5_31 : FL RX5 31 1 6 9 := ⟨5, _, _, _, _, rfl, rfl, rfl, by decide, inG_X5, lk_X5_31⟩
theorem f_X5_34 : FL RX5 34 1 7 10 := ⟨5, _, _, _, _, rfl, rfl, rfl, by decide, inG_X5, lk_X5_34⟩
theorem f_X5_37 : FL RX5 37 1 8 11 := ⟨5, _, _, _, _, rfl, rfl, rfl, by decide, inG_X5, lk_X5_37⟩
theorem f_X5_40 : FL RX5 40 1 9 12 := ⟨5, _, _, _, _, rfl, rfl, rfl, by decide, inG_X5, lk_X5_40⟩
theorem f_X5_43 : FL RX5 43 1 10 13 := ⟨5, _, _, _, _, rfl, rfl, rfl, by decide, inG_X5, lk_X5_43⟩
theorem f_X5_47 : FL RX5 47 1 11 1 := ⟨5, _, _, _, _, rfl, rfl, rfl, by decide, inG_X5, lk_X5_47⟩
theorem f_X5_51 : FL RX5 51 1 12 0 := ⟨5, _, _, _, _, rfl, rfl, rfl, by decide, inG_X5, lk_X5_51⟩
theorem f_X5_54 : FL RX5 54 1 13 14 := ⟨5, _, _, _, _, rfl, rfl, rfl, by decide, inG_X5, lk_X5_54⟩
theorem f_X5_57 : FL RX5 57 1 14 15 := ⟨5, _, _, _, _, rfl, rfl, rfl, by decide, inG_X5, lk_X5_57⟩
theorem f_X5_60 : FL RX5 60 1 15 0 := ⟨5, _, _, _, _, rfl, rfl, rfl, by decide, inG_X5, lk_X5_60⟩
theorem f_X6_10 : FL RX6 10 0 0 3 := ⟨6, _, _, _, _, rfl, rfl, rfl, by decide, inG_X6, lk_X6_10⟩
theorem f_X6_19 : FL RX6 19 0 1 16 := ⟨6, _, _, _, _, rfl, rfl, rfl, by decide, inG_X6, lk_X6_19⟩
theorem f_X6_26 : FL RX6 26 0 2 25 := ⟨6, _, _, _, _, rfl, rfl, rfl, by decide, inG_X6, lk_X6_26⟩
theorem f_X6_35 : FL RX6 35 0 3 35 := ⟨6, _, _, _, _, rfl, rfl, rfl, by decide, inG_X6, lk_X6_35⟩
theorem f_X6_42 : FL RX6 42 0 4 39 := ⟨6, _, _, _, _, rfl, rfl, rfl, by decide, inG_X6, lk_X6_42⟩
theorem f_X6_49 : FL RX6 49 0 5 42 := ⟨6, _, _, _, _, rfl, rfl, rfl, by decide, inG_X6, lk_X6_49⟩
theorem f_X6_53 : FL RX6 53 0 6 48 := ⟨6, _, _, _, _, rfl, rfl, rfl, by decide, inG_X6, lk_X6_53⟩
theorem f_X6_57 : FL RX6 57 0 7 0 := ⟨6, _, _, _, _, rfl, rfl, rfl, by decide, inG_X6, lk_X6_57⟩
theorem f_X6_69 : FL RX6 69 1 3 0 := ⟨5, _, _, _, _, rfl, rfl, rfl, by decide, inG_X5, lk_X6_69⟩
theorem f_X6_76 : FL RX6 76 1 4 7 := ⟨5, _, _, _, _, rfl, rfl, rfl, by decide, inG_X5, lk_X6_76⟩
theorem f_X6_79 : FL RX6 79 1 5 8 := ⟨5, _, _, _, _, rfl, rfl, rfl, by decide, inG_X5, lk_X6_79⟩
theorem f_X6_86 : FL RX6 86 1 12 0 := ⟨5, _, _, _, _, rfl, rfl, rfl, by decide, inG_X5, lk_X6_86⟩
theorem f_X6_93 : FL RX6 93 1 13 14 := ⟨5, _, _, _, _, rfl, rfl, rfl, by decide, inG_X5, lk_X6_93⟩
theorem f_X6_99 : FL RX6 99 1 6 9 := ⟨5, _, _, _, _, rfl, rfl, rfl, by decide, inG_X5, lk_X6_99⟩
theorem f_X6_102 : FL RX6 102 1 7 10 := ⟨5, _, _, _, _, rfl, rfl, rfl, by decide, inG_X5, lk_X6_102⟩
theorem f_X6_105 : FL RX6 105 1 8 11 := ⟨5, _, _, _, _, rfl, rfl, rfl, by decide, inG_X5, lk_X6_105⟩
theorem f_X6_108 : FL RX6 108 1 9 12 := ⟨5, _, _, _, _, rfl, rfl, rfl, by decide, inG_X5, lk_X6_108⟩
theorem f_X6_111 : FL RX6 111 1 11 1 := ⟨5, _, _, _, _, rfl, rfl, rfl, by decide, inG_X5, lk_X6_111⟩
theorem f_X6_133 : FL RX6 133 1 14 15 := ⟨5, _, _, _, _, rfl, rfl, rfl, by decide, inG_X5, lk_X6_133⟩
theorem f_X6_136 : FL RX6 136 1 15 0 := ⟨5, _, _, _, _, rfl, rfl, rfl, by decide, inG_X5, lk_X6_136⟩
theorem f_X6_143 : FL RX6 143 14 1 0 := ⟨2, _, _, _, _, rfl, rfl, rfl, by decide, inG_X2, lk_X6_143⟩
theorem f_X6_153 : FL RX6 153 14 12 0 := ⟨2, _, _, _, _, rfl, rfl, rfl, by decide, inG_X2, lk_X6_153⟩
theorem f_X6_173 : FL RX6 173 33 3 0 := ⟨4, _, _, _, _, rfl, rfl, rfl, by decide, inG_X4, lk_X6_173⟩
theorem f_X6_176 : FL RX6 176 33 2 36 := ⟨4, _, _, _, _, rfl, rfl, rfl, by decide, inG_X4, lk_X6_176⟩
theorem f_X6_179 : FL RX6 179 23 2 0 := ⟨0, _, _, _, _, rfl, rfl, rfl, by decide, inG_X0, lk_X6_179⟩
theorem f_X6_185 : FL RX6 185 23 1 27 := ⟨0, _, _, _, _, rfl, rfl, rfl, by decide, inG_X0, lk_X6_185⟩
theorem f_X6_188 : FL RX6 188 23 7 0 := ⟨0, _, _, _, _, rfl, rfl, rfl, by decide, inG_X0, lk_X6_188⟩
theorem f_X6_214 : FL RX6 214 23 9 33 := ⟨0, _, _, _, _, rfl, rfl, rfl, by decide, inG_X0, lk_X6_214⟩
theorem f_X6_244 : FL RX6 244 40 5 0 := ⟨3, _, _, _, _, rfl, rfl, rfl, by decide, inG_X3, lk_X6_244⟩
theorem f_X6_257 : FL RX6 257 40 1 44 := ⟨3, _, _, _, _, rfl, rfl, rfl, by decide, inG_X3, lk_X6_257⟩
theorem f_X6_271 : FL RX6 271 40 3 46 := ⟨3, _, _, _, _, rfl, rfl, rfl, by decide, inG_X3, lk_X6_271⟩
theorem f_X6_280 : FL RX6 280 14 11 0 := ⟨2, _, _, _, _, rfl, rfl, rfl, by decide, inG_X2, lk_X6_280⟩
theorem f_X6_286 : FL RX6 286 40 0 43 := ⟨3, _, _, _, _, rfl, rfl, rfl, by decide, inG_X3, lk_X6_286⟩
theorem f_X6_289 : FL RX6 289 40 2 45 := ⟨3, _, _, _, _, rfl, rfl, rfl, by decide, inG_X3, lk_X6_289⟩
theorem f_X6_292 : FL RX6 292 40 4 47 := ⟨3, _, _, _, _, rfl, rfl, rfl, by decide, inG_X3, lk_X6_292⟩
theorem f_X7_7 : FL RX7 7 47 0 50 := ⟨7, _, _, _, _, rfl, rfl, rfl, by decide, inG_X7, lk_X7_7⟩
theorem f_X7_13 : FL RX7 13 47 1 51 := ⟨7, _, _, _, _, rfl, rfl, rfl, by decide, inG_X7, lk_X7_13⟩
theorem f_X7_16 : FL RX7 16 47 2 52 := ⟨7, _, _, _, _, rfl, rfl, rfl, by decide, inG_X7, lk_X7_16⟩
theorem f_X7_19 : FL RX7 19 47 3 53 := ⟨7, _, _, _, _, rfl, rfl, rfl, by decide, inG_X7, lk_X7_19⟩
theorem f_X7_22 : FL RX7 22 47 4 54 := ⟨7, _, _, _, _, rfl, rfl, rfl, by decide, inG_X7, lk_X7_22⟩
theorem f_X7_25 : FL RX7 25 47 5 55 := ⟨7, _, _, _, _, rfl, rfl, rfl, by decide, inG_X7, lk_X7_25⟩
theorem f_X7_28 : FL RX7 28 47 6 56 := ⟨7, _, _, _, _, rfl, rfl, rfl, by decide, inG_X7, lk_X7_28⟩
theorem f_X7_31 : FL RX7 31 47 7 57 := ⟨7, _, _, _, _, rfl, rfl, rfl, by decide, inG_X7, lk_X7_31⟩
theorem f_X7_34 : FL RX7 34 47 8 58 := ⟨7, _, _, _, _, rfl, rfl, rfl, by decide, inG_X7, lk_X7_34⟩
theorem f_X7_37 : FL RX7 37 47 9 59 := ⟨7, _, _, _, _, rfl, rfl, rfl, by decide, inG_X7, lk_X7_37⟩
theorem f_X7_40 : FL RX7 40 47 10 60 := ⟨7, _, _, _, _, rfl, rfl, rfl, by decide, inG_X7, lk_X7_40⟩
theorem f_X7_43 : FL RX7 43 47 13 61 := ⟨7, _, _, _, _, rfl, rfl, rfl, by decide, inG_X7, lk_X7_43⟩
theorem f_X7_46 : FL RX7 46 47 15 62 := ⟨7, _, _, _, _, rfl, rfl, rfl, by decide, inG_X7, lk_X7_46⟩
theorem f_X7_49 : FL RX7 49 47 16 63 := ⟨7, _, _, _, _, rfl, rfl, rfl, by decide, inG_X7, lk_X7_49⟩
theorem f_X7_52 : FL RX7 52 47 17 64 := ⟨7, _, _, _, _, rfl, rfl, rfl, by decide, inG_X7, lk_X7_52⟩
theorem f_X7_55 : FL RX7 55 47 18 65 := ⟨7, _, _, _, _, rfl, rfl, rfl, by decide, inG_X7, lk_X7_55⟩
theorem f_X7_58 : FL RX7 58 47 19 66 := ⟨7, _, _, _, _, rfl, rfl, rfl, by decide, inG_X7, lk_X7_58⟩
theorem f_X7_61 : FL RX7 61 47 24 0 := ⟨7, _, _, _, _, rfl, rfl, rfl, by decide, inG_X7, lk_X7_61⟩
theorem f_X7_65 : FL RX7 65 47 26 67 := ⟨7, _, _, _, _, rfl, rfl, rfl, by decide, inG_X7, lk_X7_65⟩
theorem f_X7_68 : FL RX7 68 47 27 68 := ⟨7, _, _, _, _, rfl, rfl, rfl, by decide, inG_X7, lk_X7_68⟩
theorem f_X7_71 : FL RX7 71 47 28 69 := ⟨7, _, _, _, _, rfl, rfl, rfl, by decide, inG_X7, lk_X7_71⟩
theorem f_X7_74 : FL RX7 74 47 29 70 := ⟨7, _, _, _, _, rfl, rfl, rfl, by decide, inG_X7, lk_X7_74⟩
theorem f_X7_77 : FL RX7 77 47 30 71 := ⟨7, _, _, _, _, rfl, rfl, rfl, by decide, inG_X7, lk_X7_77⟩
theorem f_X7_80 : FL RX7 80 47 31 72 := ⟨7, _, _, _, _, rfl, rfl, rfl, by decide, inG_X7, lk_X7_80⟩
theorem f_X7_83 : FL RX7 83 47 35 73 := ⟨7, _, _, _, _, rfl, rfl, rfl, by decide, inG_X7, lk_X7_83⟩
theorem f_X7_86 : FL RX7 86 47 36 74 := ⟨7, _, _, _, _, rfl, rfl, rfl, by decide, inG_X7, lk_X7_86⟩
theorem f_X7_89 : FL RX7 89 47 37 75 := ⟨7, _, _, _, _, rfl, rfl, rfl, by decide, inG_X7, lk_X7_89⟩
theorem f_X7_92 : FL RX7 92 47 38 76 := ⟨7, _, _, _, _, rfl, rfl, rfl, by decide, inG_X7, lk_X7_92⟩
theorem f_X7_95 : FL RX7 95 47 39 77 := ⟨7, _, _, _, _, rfl, rfl, rfl, by decide, inG_X7, lk_X7_95⟩
theorem f_X7_98 : FL RX7 98 47 40 78 := ⟨7, _, _, _, _, rfl, rfl, rfl, by decide, inG_X7, lk_X7_98⟩
theorem f_X7_101 : FL RX7 101 47 41 79 := ⟨7, _, _, _, _, rfl, rfl, rfl, by decide, inG_X7, lk_X7_101⟩
theorem f_X7_104 : FL RX7 104 47 42 80 := ⟨7, _, _, _, _, rfl, rfl, rfl, by decide, inG_X7, lk_X7_104⟩
theorem f_X7_107 : FL RX7 107 47 45 81 := ⟨7, _, _, _, _, rfl, rfl, rfl, by decide, inG_X7, lk_X7_107⟩
theorem f_X7_110 : FL RX7 110 47 46 82 := ⟨7, _, _, _, _, rfl, rfl, rfl, by decide, inG_X7, lk_X7_110⟩
theorem f_X7_113 : FL RX7 113 47 47 83 := ⟨7, _, _, _, _, rfl, rfl, rfl, by decide, inG_X7, lk_X7_113⟩
theorem f_X7_116 : FL RX7 116 47 48 84 := ⟨7, _, _, _, _, rfl, rfl, rfl, by decide, inG_X7, lk_X7_116⟩
theorem f_X7_119 : FL RX7 119 47 49 85 := ⟨7, _, _, _, _, rfl, rfl, rfl, by decide, inG_X7, lk_X7_119⟩
theorem f_X7_122 : FL RX7 122 47 50 86 := ⟨7, _, _, _, _, rfl, rfl, rfl, by decide, inG_X7, lk_X7_122⟩
theorem f_X7_126 : FL RX7 126 47 51 87 := ⟨7, _, _, _, _, rfl, rfl, rfl, by decide, inG_X7, lk_X7_126⟩
theorem f_X7_129 : FL RX7 129 47 54 88 := ⟨7, _, _, _, _, rfl, rfl, rfl, by decide, inG_X7, lk_X7_129⟩
theorem f_X7_132 : FL RX7 132 47 55 89 := ⟨7, _, _, _, _, rfl, rfl, rfl, by decide, inG_X7, lk_X7_132⟩
theorem f_X7_135 : FL RX7 135 47 56 90 := ⟨7, _, _, _, _, rfl, rfl, rfl, by decide, inG_X7, lk_X7_135⟩
theorem f_X7_138 : FL RX7 138 47 57 91 := ⟨7, _, _, _, _, rfl, rfl, rfl, by decide, inG_X7, lk_X7_138⟩
theorem f_X7_141 : FL RX7 141 47 58 92 := ⟨7, _, _, _, _, rfl, rfl, rfl, by decide, inG_X7, lk_X7_141⟩
theorem f_X7_144 : FL RX7 144 47 11 0 := ⟨7, _, _, _, _, rfl, rfl, rfl, by decide, inG_X7, lk_X7_144⟩
theorem f_X7_147 : FL RX7 147 47 12 0 := ⟨7, _, _, _, _, rfl, rfl, rfl, by decide, inG_X7, lk_X7_147⟩
theorem f_X7_193 : FL RX7 193 47 14 0 := ⟨7, _, _, _, _, rfl, rfl, rfl, by decide, inG_X7, lk_X7_193⟩
theorem f_X7_199 : FL RX7 199 47 20 0 := ⟨7, _, _, _, _, rfl, rfl, rfl, by decide, inG_X7, lk_X7_199⟩
theorem f_X7_204 : FL RX7 204 47 21 0 := ⟨7, _, _, _, _, rfl, rfl, rfl, by decide, inG_X7, lk_X7_204⟩
theorem f_X7_207 : FL RX7 207 47 22 0 := ⟨7, _, _, _, _, rfl, rfl, rfl, by decide, inG_X7, lk_X7_207⟩
theorem f_X7_223 : FL RX7 223 47 25 0 := ⟨7, _, _, _, _, rfl, rfl, rfl, by decide, inG_X7, lk_X7_223⟩
theorem f_X7_232 : FL RX7 232 47 23 0 := ⟨7, _, _, _, _, rfl, rfl, rfl, by decide, inG_X7, lk_X7_232⟩
theorem f_X7_237 : FL RX7 237 47 34 1 := ⟨7, _, _, _, _, rfl, rfl, rfl, by decide, inG_X7, lk_X7_237⟩
theorem f_X7_241 : FL RX7 241 47 33 0 := ⟨7, _, _, _, _, rfl, rfl, rfl, by decide, inG_X7, lk_X7_241⟩
theorem f_X7_266 : FL RX7 266 47 53 0 := ⟨7, _, _, _, _, rfl, rfl, rfl, by decide, inG_X7, lk_X7_266⟩
theorem f_X7_276 : FL RX7 276 47 32 0 := ⟨7, _, _, _, _, rfl, rfl, rfl, by decide, inG_X7, lk_X7_276⟩
theorem f_X7_282 : FL RX7 282 47 44 0 := ⟨7, _, _, _, _, rfl, rfl, rfl, by decide, inG_X7, lk_X7_282⟩
theorem f_X7_313 : FL RX7 313 47 52 0 := ⟨7, _, _, _, _, rfl, rfl, rfl, by decide, inG_X7, lk_X7_313⟩
theorem f_X7_339 : FL RX7 339 47 43 0 := ⟨7, _, _, _, _, rfl, rfl, rfl, by decide, inG_X7, lk_X7_339⟩
theorem f_X7_352 : FL RX7 352 47 59 0 := ⟨7, _, _, _, _, rfl, rfl, rfl, by decide, inG_X7, lk_X7_352⟩
theorem p_X0_18 : PF RX0 18 23 2 0 .int := ⟨0, _, _, _, _, tyX0, rfl, rfl, rfl, by decide, inG_X0, lk_X0_18, tyX0_ok, nmX0, rfl, by decide +kernel⟩
theorem p_X0_35 : PF RX0 35 23 7 0 .int := ⟨0, _, _, _, _, tyX0, rfl, rfl, rfl, by decide, inG_X0, lk_X0_35, tyX0_ok, nmX0, rfl, by decide +kernel⟩
theorem p_X1_18 : PF RX1 18 37 4 1 .long := ⟨1, _, _, _, _, tyX1, rfl, rfl, rfl, by decide, inG_X1, lk_X1_18, tyX1_ok, nmX1, rfl, by decide +kernel⟩
theorem p_X1_22 : PF RX1 22 37 5 0 .int := ⟨1, _, _, _, _, tyX1, rfl, rfl, rfl, by decide, inG_X1, lk_X1_22, tyX1_ok, nmX1, rfl, by decide +kernel⟩
theorem p_X1_26 : PF RX1 26 37 6 0 .int := ⟨1, _, _, _, _, tyX1, rfl, rfl, rfl, by decide, inG_X1, lk_X1_26, tyX1_ok, nmX1, rfl, by decide +kernel⟩
theorem p_X2_15 : PF RX2 15 14 1 0 .int := ⟨2, _, _, _, _, tyX2, rfl, rfl, rfl, by decide, inG_X2, lk_X2_15, tyX2_ok, nmX2, rfl, by decide +kernel⟩
theorem p_X2_25 : PF RX2 25 14 4 0 .int := ⟨2, _, _, _, _, tyX2, rfl, rfl, rfl, by decide, inG_X2, lk_X2_25, tyX2_ok, nmX2, rfl, by decide +kernel⟩
theorem p_X2_28 : PF RX2 28 14 5 0 .boolean := ⟨2, _, _, _, _, tyX2, rfl, rfl, rfl, by decide, inG_X2, lk_X2_28, tyX2_ok, nmX2, rfl, by decide +kernel⟩
theorem p_X2_47 : PF RX2 47 14 11 0 .int := ⟨2, _, _, _, _, tyX2, rfl, rfl, rfl, by decide, inG_X2, lk_X2_47, tyX2_ok, nmX2, rfl, by decide +kernel⟩
theorem p_X3_27 : PF RX3 27 40 5 0 .int := ⟨3, _, _, _, _, tyX3, rfl, rfl, rfl, by decide, inG_X3, lk_X3_27, tyX3_ok, nmX3, rfl, by decide +kernel⟩
theorem p_X4_15 : PF RX4 15 33 3 0 .int := ⟨4, _, _, _, _, tyX4, rfl, rfl, rfl, by decide, inG_X4, lk_X4_15, tyX4_ok, nmX4, rfl, by decide +kernel⟩
theorem p_X4_22 : PF RX4 22 33 5 0 .int := ⟨4, _, _, _, _, tyX4, rfl, rfl, rfl, by decide, inG_X4, lk_X4_22, tyX4_ok, nmX4, rfl, by decide +kernel⟩
theorem p_X4_28 : PF RX4 28 33 7 0 .int := ⟨4, _, _, _, _, tyX4, rfl, rfl, rfl, by decide, inG_X4, lk_X4_28, tyX4_ok, nmX4, rfl, by decide +kernel⟩
theorem p_X4_31 : PF RX4 31 33 8 0 .int := ⟨4, _, _, _, _, tyX4, rfl, rfl, rfl, by decide, inG_X4, lk_X4_31, tyX4_ok, nmX4, rfl, by decide +kernel⟩
theorem p_X4_34 : PF RX4 34 33 9 0 .int := ⟨4, _, _, _, _, tyX4, rfl, rfl, rfl, by decide, inG_X4, lk_X4_34, tyX4_ok, nmX4, rfl, by decide +kernel⟩
theorem p_X4_37 : PF RX4 37 33 10 0 .int := ⟨4, _, _, _, _, tyX4, rfl, rfl, rfl, by decide, inG_X4, lk_X4_37, tyX4_ok, nmX4, rfl, by decide +kernel⟩
theorem p_X4_40 : PF RX4 40 33 11 1 .long := ⟨4, _, _, _, _, tyX4, rfl, rfl, rfl, by decide, inG_X4, lk_X4_40, tyX4_ok, nmX4, rfl, by decide +kernel⟩
theorem p_X4_44 : PF RX4 44 33 12 1 .long := ⟨4, _, _, _, _, tyX4, rfl, rfl, rfl, by decide, inG_X4, lk_X4_44, tyX4_ok, nmX4, rfl, by decide +kernel⟩
theorem p_X5_21 : PF RX5 21 1 3 0 .int := ⟨5, _, _, _, _, tyX5, rfl, rfl, rfl, by decide, inG_X5, lk_X5_21, tyX5_ok, nmX5, rfl, by decide +kernel⟩
theorem p_X5_47 : PF RX5 47 1 11 1 .long := ⟨5, _, _, _, _, tyX5, rfl, rfl, rfl, by decide, inG_X5, lk_X5_47, tyX5_ok, nmX5, rfl, by decide +kernel⟩
theorem p_X5_51 : PF RX5 51 1 12 0 .int := ⟨5, _, _, _, _, tyX5, rfl, rfl, rfl, by decide, inG_X5, lk_X5_51, tyX5_ok, nmX5, rfl, by decide +kernel⟩
theorem p_X5_60 : PF RX5 60 1 15 0 .int := ⟨5, _, _, _, _, tyX5, rfl, rfl, rfl, by decide, inG_X5, lk_X5_60, tyX5_ok, nmX5, rfl, by decide +kernel⟩
theorem p_X6_57 : PF RX6 57 0 7 0 .int := ⟨6, _, _, _, _, tyX6, rfl, rfl, rfl, by decide, inG_X6, lk_X6_57, tyX6_ok, nmX6, rfl, by decide +kernel⟩
theorem p_X6_153 : PF RX6 153 14 12 0 .int := ⟨2, _, _, _, _, tyX2, rfl, rfl, rfl, by decide, inG_X2, lk_X6_153, tyX2_ok, nmX2, rfl, by decide +kernel⟩
theorem p_X7_61 : PF RX7 61 47 24 0 .int := ⟨7, _, _, _, _, tyX7, rfl, rfl, rfl, by decide, inG_X7, lk_X7_61, tyX7_ok, nmX7, rfl, by decide +kernel⟩
theorem p_X7_144 : PF RX7 144 47 11 0 .int := ⟨7, _, _, _, _, tyX7, rfl, rfl, rfl, by decide, inG_X7, lk_X7_144, tyX7_ok, nmX7, rfl, by decide +kernel⟩
theorem p_X7_147 : PF RX7 147 47 12 0 .int := ⟨7, _, _, _, _, tyX7, rfl, rfl, rfl, by decide, inG_X7, lk_X7_147, tyX7_ok, nmX7, rfl, by decide +kernel⟩
theorem p_X7_193 : PF RX7 193 47 14 0 .int := ⟨7, _, _, _, _, tyX7, rfl, rfl, rfl, by decide, inG_X7, lk_X7_193, tyX7_ok, nmX7, rfl, by decide +kernel⟩
theorem p_X7_199 : PF RX7 199 47 20 0 .int := ⟨7, _, _, _, _, tyX7, rfl, rfl, rfl, by decide, inG_X7, lk_X7_199, tyX7_ok, nmX7, rfl, by decide +kernel⟩
theorem p_X7_204 : PF RX7 204 47 21 0 .int := ⟨7, _, _, _, _, tyX7, rfl, rfl, rfl, by decide, inG_X7, lk_X7_204, tyX7_ok, nmX7, rfl, by decide +kernel⟩
theorem p_X7_207 : PF RX7 207 47 22 0 .int := ⟨7, _, _, _, _, tyX7, rfl, rfl, rfl, by decide, inG_X7, lk_X7_207, tyX7_ok, nmX7, rfl, by decide +kernel⟩
theorem p_X7_223 : PF RX7 223 47 25 0 .int := ⟨7, _, _, _, _, tyX7, rfl, rfl, rfl, by decide, inG_X7, lk_X7_223, tyX7_ok, nmX7, rfl, by decide +kernel⟩
theorem p_X7_232 : PF RX7 232 47 23 0 .int := ⟨7, _, _, _, _, tyX7, rfl, rfl, rfl, by decide, inG_X7, lk_X7_232, tyX7_ok, nmX7, rfl, by decide +kernel⟩
theorem p_X7_237 : PF RX7 237 47 34 1 .long := ⟨7, _, _, _, _, tyX7, rfl, rfl, rfl, by decide, inG_X7, lk_X7_237, tyX7_ok, nmX7, rfl, by decide +kernel⟩
theorem p_X7_241 : PF RX7 241 47 33 0 .int := ⟨7, _, _, _, _, tyX7, rfl, rfl, rfl, by decide, inG_X7, lk_X7_241, tyX7_ok, nmX7, rfl, by decide +kernel⟩
theorem p_X7_266 : PF RX7 266 47 53 0 .int := ⟨7, _, _, _, _, tyX7, rfl, rfl, rfl, by decide, inG_X7, lk_X7_266, tyX7_ok, nmX7, rfl, by decide +kernel⟩
theorem p_X7_276 : PF RX7 276 47 32 0 .int := ⟨7, _, _, _, _, tyX7, rfl, rfl, rfl, by decide, inG_X7, lk_X7_276, tyX7_ok, nmX7, rfl, by decide +kernel⟩
theorem p_X7_282 : PF RX7 282 47 44 0 .int := ⟨7, _, _, _, _, tyX7, rfl, rfl, rfl, by decide, inG_X7, lk_X7_282, tyX7_ok, nmX7, rfl, by decide +kernel⟩
theorem p_X7_313 : PF RX7 313 47 52 0 .int := ⟨7, _, _, _, _, tyX7, rfl, rfl, rfl, by decide, inG_X7, lk_X7_313, tyX7_ok, nmX7, rfl, by decide +kernel⟩
theorem p_X7_339 : PF RX7 339 47 43 0 .int := ⟨7, _, _, _, _, tyX7, rfl, rfl, rfl, by decide, inG_X7, lk_X7_339, tyX7_ok, nmX7, rfl, by decide +kernel⟩
theorem p_X7_352 : PF RX7 352 47 59 0 .int := ⟨7, _, _, _, _, tyX7, rfl, rfl, rfl, by decide, inG_X7, lk_X7_352, tyX7_ok, nmX7, rfl, by decide +kernel⟩
theorem yk_X0_isSinger : YOK yX0_isSinger cX0_isSinger 2 (some .boolean) 1 := ⟨gT_of 121 (by decide +kernel) (by decide +kernel), gT_of 629 (by decide +kernel) (by decide +kernel), by decide +kernel, by decide +kernel, by decide +kernel⟩
theorem iv_X0_isSinger : Cond.instanceMethod yX0_isSinger ∈ gT ∧ Cond.selects yX0_isSinger.cls yX0_isSinger yX0_isSinger ∈ gT := ⟨gT_of 628 (by decide +kernel) (by decide +kernel), gT_of 28 (by decide +kernel) (by decide +kernel)⟩
theorem yk_X0_isKnown : YOK yX0_isKnown cX0_isKnown 2 (some .boolean) 1 := ⟨gT_of 121 (by decide +kernel) (by decide +kernel), gT_of 735 (by decide +kernel) (by decide +kernel), by decide +kernel, by decide +kernel, by decide +kernel⟩
theorem iv_X0_isKnown : Cond.instanceMethod yX0_isKnown ∈ gT ∧ Cond.selects yX0_isKnown.cls yX0_isKnown yX0_isKnown ∈ gT := ⟨gT_of 734 (by decide +kernel) (by decide +kernel), gT_of 44 (by decide +kernel) (by decide +kernel)⟩
theorem yk_X0_addSinger : YOK yX0_addSinger cX0_addSinger 2 (some .int) 1 := ⟨gT_of 121 (by decide +kernel) (by decide +kernel), gT_of 711 (by decide +kernel) (by decide +kernel), by decide +kernel, by decide +kernel, by decide +kernel⟩
theorem iv_X0_addSinger : Cond.instanceMethod yX0_addSinger ∈ gT ∧ Cond.selects yX0_addSinger.cls yX0_addSinger yX0_addSinger ∈ gT := ⟨gT_of 710 (by decide +kernel) (by decide +kernel), gT_of 42 (by decide +kernel) (by decide +kernel)⟩
theorem yk_X0_enter : YOK yX0_enter cX0_enter 5 (some .int) 4 := ⟨gT_of 121 (by decide +kernel) (by decide +kernel), gT_of 723 (by decide +kernel) (by decide +kernel), by decide +kernel, by decide +kernel, by decide +kernel⟩
theorem iv_X0_enter : Cond.instanceMethod yX0_enter ∈ gT ∧ Cond.selects yX0_enter.cls yX0_enter yX0_enter ∈ gT := ⟨gT_of 722 (by decide +kernel) (by decide +kernel), gT_of 43 (by decide +kernel) (by decide +kernel)⟩
theorem yk_X0_stockOf : YOK yX0_stockOf cX0_stockOf 9 (some .long) 3 := ⟨gT_of 121 (by decide +kernel) (by decide +kernel), gT_of 636 (by decide +kernel) (by decide +kernel), by decide +kernel, by decide +kernel, by decide +kernel⟩
theorem iv_X0_stockOf : Cond.instanceMethod yX0_stockOf ∈ gT ∧ Cond.selects yX0_stockOf.cls yX0_stockOf yX0_stockOf ∈ gT := ⟨gT_of 635 (by decide +kernel) (by decide +kernel), gT_of 29 (by decide +kernel) (by decide +kernel)⟩
theorem yk_X0_openAt : YOK yX0_openAt cX0_openAt 4 none 2 := ⟨gT_of 121 (by decide +kernel) (by decide +kernel), gT_of 748 (by decide +kernel) (by decide +kernel), by decide +kernel, by decide +kernel, by decide +kernel⟩
theorem iv_X0_openAt : Cond.instanceMethod yX0_openAt ∈ gT ∧ Cond.selects yX0_openAt.cls yX0_openAt yX0_openAt ∈ gT := ⟨gT_of 747 (by decide +kernel) (by decide +kernel), gT_of 45 (by decide +kernel) (by decide +kernel)⟩
theorem yk_X0_changes : YOK yX0_changes cX0_changes 3 (some .int) 2 := ⟨gT_of 121 (by decide +kernel) (by decide +kernel), gT_of 753 (by decide +kernel) (by decide +kernel), by decide +kernel, by decide +kernel, by decide +kernel⟩
theorem iv_X0_changes : Cond.instanceMethod yX0_changes ∈ gT ∧ Cond.selects yX0_changes.cls yX0_changes yX0_changes ∈ gT := ⟨gT_of 752 (by decide +kernel) (by decide +kernel), gT_of 46 (by decide +kernel) (by decide +kernel)⟩
theorem yk_X0_masterOf : YOK yX0_masterOf cX0_masterOf 4 (some .int) 1 := ⟨gT_of 121 (by decide +kernel) (by decide +kernel), gT_of 762 (by decide +kernel) (by decide +kernel), by decide +kernel, by decide +kernel, by decide +kernel⟩
theorem iv_X0_masterOf : Cond.instanceMethod yX0_masterOf ∈ gT ∧ Cond.selects yX0_masterOf.cls yX0_masterOf yX0_masterOf ∈ gT := ⟨gT_of 761 (by decide +kernel) (by decide +kernel), gT_of 47 (by decide +kernel) (by decide +kernel)⟩
theorem yk_X0_isNearer : YOK yX0_isNearer cX0_isNearer 5 (some .boolean) 3 := ⟨gT_of 121 (by decide +kernel) (by decide +kernel), gT_of 766 (by decide +kernel) (by decide +kernel), by decide +kernel, by decide +kernel, by decide +kernel⟩
theorem iv_X0_isNearer : Cond.instanceMethod yX0_isNearer ∈ gT ∧ Cond.selects yX0_isNearer.cls yX0_isNearer yX0_isNearer ∈ gT := ⟨gT_of 765 (by decide +kernel) (by decide +kernel), gT_of 48 (by decide +kernel) (by decide +kernel)⟩
theorem yk_X0_masterStock : YOK yX0_masterStock cX0_masterStock 3 (some .long) 1 := ⟨gT_of 121 (by decide +kernel) (by decide +kernel), gT_of 779 (by decide +kernel) (by decide +kernel), by decide +kernel, by decide +kernel, by decide +kernel⟩
theorem iv_X0_masterStock : Cond.instanceMethod yX0_masterStock ∈ gT ∧ Cond.selects yX0_masterStock.cls yX0_masterStock yX0_masterStock ∈ gT := ⟨gT_of 778 (by decide +kernel) (by decide +kernel), gT_of 49 (by decide +kernel) (by decide +kernel)⟩
theorem yk_X0_stockAround : YOK yX0_stockAround cX0_stockAround 5 (some .long) 1 := ⟨gT_of 121 (by decide +kernel) (by decide +kernel), gT_of 892 (by decide +kernel) (by decide +kernel), by decide +kernel, by decide +kernel, by decide +kernel⟩
theorem iv_X0_stockAround : Cond.instanceMethod yX0_stockAround ∈ gT ∧ Cond.selects yX0_stockAround.cls yX0_stockAround yX0_stockAround ∈ gT := ⟨gT_of 891 (by decide +kernel) (by decide +kernel), gT_of 68 (by decide +kernel) (by decide +kernel)⟩
theorem yk_X0_commonStock : YOK yX0_commonStock cX0_commonStock 4 (some .long) 0 := ⟨gT_of 121 (by decide +kernel) (by decide +kernel), gT_of 789 (by decide +kernel) (by decide +kernel), by decide +kernel, by decide +kernel, by decide +kernel⟩
theorem iv_X0_commonStock : Cond.instanceMethod yX0_commonStock ∈ gT ∧ Cond.selects yX0_commonStock.cls yX0_commonStock yX0_commonStock ∈ gT := ⟨gT_of 788 (by decide +kernel) (by decide +kernel), gT_of 50 (by decide +kernel) (by decide +kernel)⟩
theorem yk_X0_villageWithMost : YOK yX0_villageWithMost cX0_villageWithMost 4 (some .int) 1 := ⟨gT_of 121 (by decide +kernel) (by decide +kernel), gT_of 798 (by decide +kernel) (by decide +kernel), by decide +kernel, by decide +kernel, by decide +kernel⟩
theorem iv_X0_villageWithMost : Cond.instanceMethod yX0_villageWithMost ∈ gT ∧ Cond.selects yX0_villageWithMost.cls yX0_villageWithMost yX0_villageWithMost ∈ gT := ⟨gT_of 797 (by decide +kernel) (by decide +kernel), gT_of 51 (by decide +kernel) (by decide +kernel)⟩
theorem yk_X1_take : YOK yX1_take cX1_take 11 none 4 := ⟨gT_of 123 (by decide +kernel) (by decide +kernel), gT_of 811 (by decide +kernel) (by decide +kernel), by decide +kernel, by decide +kernel, by decide +kernel⟩
theorem iv_X1_take : Cond.instanceMethod yX1_take ∈ gT ∧ Cond.selects yX1_take.cls yX1_take yX1_take ∈ gT := ⟨gT_of 810 (by decide +kernel) (by decide +kernel), gT_of 52 (by decide +kernel) (by decide +kernel)⟩
theorem yk_X1_allowOnly : YOK yX1_allowOnly cX1_allowOnly 4 none 2 := ⟨gT_of 123 (by decide +kernel) (by decide +kernel), gT_of 944 (by decide +kernel) (by decide +kernel), by decide +kernel, by decide +kernel, by decide +kernel⟩
theorem iv_X1_allowOnly : Cond.instanceMethod yX1_allowOnly ∈ gT ∧ Cond.selects yX1_allowOnly.cls yX1_allowOnly yX1_allowOnly ∈ gT := ⟨gT_of 943 (by decide +kernel) (by decide +kernel), gT_of 77 (by decide +kernel) (by decide +kernel)⟩
theorem yk_X1_ways : YOK yX1_ways cX1_ways 4 (some .int) 1 := ⟨gT_of 123 (by decide +kernel) (by decide +kernel), gT_of 817 (by decide +kernel) (by decide +kernel), by decide +kernel, by decide +kernel, by decide +kernel⟩
theorem iv_X1_ways : Cond.instanceMethod yX1_ways ∈ gT ∧ Cond.selects yX1_ways.cls yX1_ways yX1_ways ∈ gT := ⟨gT_of 816 (by decide +kernel) (by decide +kernel), gT_of 53 (by decide +kernel) (by decide +kernel)⟩
theorem yk_X1_onlyLine : YOK yX1_onlyLine cX1_onlyLine 7 (some .int) 2 := ⟨gT_of 123 (by decide +kernel) (by decide +kernel), gT_of 940 (by decide +kernel) (by decide +kernel), by decide +kernel, by decide +kernel, by decide +kernel⟩
theorem iv_X1_onlyLine : Cond.instanceMethod yX1_onlyLine ∈ gT ∧ Cond.selects yX1_onlyLine.cls yX1_onlyLine yX1_onlyLine ∈ gT := ⟨gT_of 939 (by decide +kernel) (by decide +kernel), gT_of 76 (by decide +kernel) (by decide +kernel)⟩
theorem yk_X1_fillTable : YOK yX1_fillTable cX1_fillTable 3 none 1 := ⟨gT_of 123 (by decide +kernel) (by decide +kernel), gT_of 825 (by decide +kernel) (by decide +kernel), by decide +kernel, by decide +kernel, by decide +kernel⟩
theorem iv_X1_fillTable : Cond.instanceMethod yX1_fillTable ∈ gT ∧ Cond.selects yX1_fillTable.cls yX1_fillTable yX1_fillTable ∈ gT := ⟨gT_of 824 (by decide +kernel) (by decide +kernel), gT_of 55 (by decide +kernel) (by decide +kernel)⟩
theorem yk_X1_readSign : YOK yX1_readSign cX1_readSign 2 none 1 := ⟨gT_of 123 (by decide +kernel) (by decide +kernel), gT_of 850 (by decide +kernel) (by decide +kernel), by decide +kernel, by decide +kernel, by decide +kernel⟩
theorem iv_X1_readSign : Cond.instanceMethod yX1_readSign ∈ gT ∧ Cond.selects yX1_readSign.cls yX1_readSign yX1_readSign ∈ gT := ⟨gT_of 849 (by decide +kernel) (by decide +kernel), gT_of 60 (by decide +kernel) (by decide +kernel)⟩
theorem yk_X1_raise : YOK yX1_raise cX1_raise 1 none 0 := ⟨gT_of 123 (by decide +kernel) (by decide +kernel), gT_of 884 (by decide +kernel) (by decide +kernel), by decide +kernel, by decide +kernel, by decide +kernel⟩
theorem iv_X1_raise : Cond.instanceMethod yX1_raise ∈ gT ∧ Cond.selects yX1_raise.cls yX1_raise yX1_raise ∈ gT := ⟨gT_of 883 (by decide +kernel) (by decide +kernel), gT_of 67 (by decide +kernel) (by decide +kernel)⟩
theorem yk_X1_lower : YOK yX1_lower cX1_lower 1 none 0 := ⟨gT_of 123 (by decide +kernel) (by decide +kernel), gT_of 872 (by decide +kernel) (by decide +kernel), by decide +kernel, by decide +kernel, by decide +kernel⟩
theorem iv_X1_lower : Cond.instanceMethod yX1_lower ∈ gT ∧ Cond.selects yX1_lower.cls yX1_lower yX1_lower ∈ gT := ⟨gT_of 871 (by decide +kernel) (by decide +kernel), gT_of 64 (by decide +kernel) (by decide +kernel)⟩
theorem yk_X1_close : YOK yX1_close cX1_close 2 none 0 := ⟨gT_of 123 (by decide +kernel) (by decide +kernel), gT_of 868 (by decide +kernel) (by decide +kernel), by decide +kernel, by decide +kernel, by decide +kernel⟩
theorem iv_X1_close : Cond.instanceMethod yX1_close ∈ gT ∧ Cond.selects yX1_close.cls yX1_close yX1_close ∈ gT := ⟨gT_of 867 (by decide +kernel) (by decide +kernel), gT_of 63 (by decide +kernel) (by decide +kernel)⟩
theorem yk_X1_repeat : YOK yX1_repeat cX1_repeat 3 none 0 := ⟨gT_of 123 (by decide +kernel) (by decide +kernel), gT_of 876 (by decide +kernel) (by decide +kernel), by decide +kernel, by decide +kernel, by decide +kernel⟩
theorem iv_X1_repeat : Cond.instanceMethod yX1_repeat ∈ gT ∧ Cond.selects yX1_repeat.cls yX1_repeat yX1_repeat ∈ gT := ⟨gT_of 875 (by decide +kernel) (by decide +kernel), gT_of 65 (by decide +kernel) (by decide +kernel)⟩
theorem yk_X1_cell : YOK yX1_cell cX1_cell 4 (some .int) 3 := ⟨gT_of 123 (by decide +kernel) (by decide +kernel), gT_of 841 (by decide +kernel) (by decide +kernel), by decide +kernel, by decide +kernel, by decide +kernel⟩
theorem iv_X1_cell : Cond.instanceMethod yX1_cell ∈ gT ∧ Cond.selects yX1_cell.cls yX1_cell yX1_cell ∈ gT := ⟨gT_of 840 (by decide +kernel) (by decide +kernel), gT_of 59 (by decide +kernel) (by decide +kernel)⟩
theorem yk_X1_cellsInUse : YOK yX1_cellsInUse cX1_cellsInUse 1 (some .int) 0 := ⟨gT_of 123 (by decide +kernel) (by decide +kernel), gT_of 833 (by decide +kernel) (by decide +kernel), by decide +kernel, by decide +kernel, by decide +kernel⟩
theorem iv_X1_cellsInUse : Cond.instanceMethod yX1_cellsInUse ∈ gT ∧ Cond.selects yX1_cellsInUse.cls yX1_cellsInUse yX1_cellsInUse ∈ gT := ⟨gT_of 832 (by decide +kernel) (by decide +kernel), gT_of 57 (by decide +kernel) (by decide +kernel)⟩
theorem yk_X1_clear : YOK yX1_clear cX1_clear 4 none 1 := ⟨gT_of 123 (by decide +kernel) (by decide +kernel), gT_of 829 (by decide +kernel) (by decide +kernel), by decide +kernel, by decide +kernel, by decide +kernel⟩
theorem iv_X1_clear : Cond.instanceMethod yX1_clear ∈ gT ∧ Cond.selects yX1_clear.cls yX1_clear yX1_clear ∈ gT := ⟨gT_of 828 (by decide +kernel) (by decide +kernel), gT_of 56 (by decide +kernel) (by decide +kernel)⟩
theorem yk_X1_addOne : YOK yX1_addOne cX1_addOne 4 none 1 := ⟨gT_of 123 (by decide +kernel) (by decide +kernel), gT_of 837 (by decide +kernel) (by decide +kernel), by decide +kernel, by decide +kernel, by decide +kernel⟩
theorem iv_X1_addOne : Cond.instanceMethod yX1_addOne ∈ gT ∧ Cond.selects yX1_addOne.cls yX1_addOne yX1_addOne ∈ gT := ⟨gT_of 836 (by decide +kernel) (by decide +kernel), gT_of 58 (by decide +kernel) (by decide +kernel)⟩
theorem yk_X1_addTable : YOK yX1_addTable cX1_addTable 6 none 2 := ⟨gT_of 123 (by decide +kernel) (by decide +kernel), gT_of 880 (by decide +kernel) (by decide +kernel), by decide +kernel, by decide +kernel, by decide +kernel⟩
theorem iv_X1_addTable : Cond.instanceMethod yX1_addTable ∈ gT ∧ Cond.selects yX1_addTable.cls yX1_addTable yX1_addTable ∈ gT := ⟨gT_of 879 (by decide +kernel) (by decide +kernel), gT_of 66 (by decide +kernel) (by decide +kernel)⟩
theorem yk_X1_followBySlot : YOK yX1_followBySlot cX1_followBySlot 6 none 1 := ⟨gT_of 123 (by decide +kernel) (by decide +kernel), gT_of 855 (by decide +kernel) (by decide +kernel), by decide +kernel, by decide +kernel, by decide +kernel⟩
theorem iv_X1_followBySlot : Cond.instanceMethod yX1_followBySlot ∈ gT ∧ Cond.selects yX1_followBySlot.cls yX1_followBySlot yX1_followBySlot ∈ gT := ⟨gT_of 854 (by decide +kernel) (by decide +kernel), gT_of 61 (by decide +kernel) (by decide +kernel)⟩
theorem yk_X1_multiply : YOK yX1_multiply cX1_multiply 12 none 2 := ⟨gT_of 123 (by decide +kernel) (by decide +kernel), gT_of 864 (by decide +kernel) (by decide +kernel), by decide +kernel, by decide +kernel, by decide +kernel⟩
theorem iv_X1_multiply : Cond.instanceMethod yX1_multiply ∈ gT ∧ Cond.selects yX1_multiply.cls yX1_multiply yX1_multiply ∈ gT := ⟨gT_of 863 (by decide +kernel) (by decide +kernel), gT_of 62 (by decide +kernel) (by decide +kernel)⟩
theorem yk_X2_isTold : YOK yX2_isTold cX2_isTold 2 (some .boolean) 1 := ⟨gT_of 120 (by decide +kernel) (by decide +kernel), gT_of 601 (by decide +kernel) (by decide +kernel), by decide +kernel, by decide +kernel, by decide +kernel⟩
theorem iv_X2_isTold : Cond.instanceMethod yX2_isTold ∈ gT ∧ Cond.selects yX2_isTold.cls yX2_isTold yX2_isTold ∈ gT := ⟨gT_of 600 (by decide +kernel) (by decide +kernel), gT_of 24 (by decide +kernel) (by decide +kernel)⟩
theorem yk_X2_sign : YOK yX2_sign cX2_sign 3 (some .int) 2 := ⟨gT_of 120 (by decide +kernel) (by decide +kernel), gT_of 660 (by decide +kernel) (by decide +kernel), by decide +kernel, by decide +kernel, by decide +kernel⟩
theorem iv_X2_sign : Cond.instanceMethod yX2_sign ∈ gT ∧ Cond.selects yX2_sign.cls yX2_sign yX2_sign ∈ gT := ⟨gT_of 659 (by decide +kernel) (by decide +kernel), gT_of 34 (by decide +kernel) (by decide +kernel)⟩
theorem yk_X2_mateOf : YOK yX2_mateOf cX2_mateOf 3 (some .int) 2 := ⟨gT_of 120 (by decide +kernel) (by decide +kernel), gT_of 668 (by decide +kernel) (by decide +kernel), by decide +kernel, by decide +kernel, by decide +kernel⟩
theorem iv_X2_mateOf : Cond.instanceMethod yX2_mateOf ∈ gT ∧ Cond.selects yX2_mateOf.cls yX2_mateOf yX2_mateOf ∈ gT := ⟨gT_of 667 (by decide +kernel) (by decide +kernel), gT_of 36 (by decide +kernel) (by decide +kernel)⟩
theorem yk_X2_append : YOK yX2_append cX2_append 5 (some .int) 2 := ⟨gT_of 120 (by decide +kernel) (by decide +kernel), gT_of 555 (by decide +kernel) (by decide +kernel), by decide +kernel, by decide +kernel, by decide +kernel⟩
theorem iv_X2_append : Cond.instanceMethod yX2_append ∈ gT ∧ Cond.selects yX2_append.cls yX2_append yX2_append ∈ gT := ⟨gT_of 554 (by decide +kernel) (by decide +kernel), gT_of 16 (by decide +kernel) (by decide +kernel)⟩
theorem yk_X2_tellTape : YOK yX2_tellTape cX2_tellTape 2 (some .int) 0 := ⟨gT_of 120 (by decide +kernel) (by decide +kernel), gT_of 564 (by decide +kernel) (by decide +kernel), by decide +kernel, by decide +kernel, by decide +kernel⟩
theorem iv_X2_tellTape : Cond.instanceMethod yX2_tellTape ∈ gT ∧ Cond.selects yX2_tellTape.cls yX2_tellTape yX2_tellTape ∈ gT := ⟨gT_of 563 (by decide +kernel) (by decide +kernel), gT_of 17 (by decide +kernel) (by decide +kernel)⟩
theorem yk_X2_readTape : YOK yX2_readTape cX2_readTape 3 (some .int) 0 := ⟨gT_of 120 (by decide +kernel) (by decide +kernel), gT_of 568 (by decide +kernel) (by decide +kernel), by decide +kernel, by decide +kernel, by decide +kernel⟩
theorem iv_X2_readTape : Cond.instanceMethod yX2_readTape ∈ gT ∧ Cond.selects yX2_readTape.cls yX2_readTape yX2_readTape ∈ gT := ⟨gT_of 567 (by decide +kernel) (by decide +kernel), gT_of 18 (by decide +kernel) (by decide +kernel)⟩
theorem yk_X2_misfit : YOK yX2_misfit cX2_misfit 2 (some .int) 0 := ⟨gT_of 120 (by decide +kernel) (by decide +kernel), gT_of 572 (by decide +kernel) (by decide +kernel), by decide +kernel, by decide +kernel, by decide +kernel⟩
theorem iv_X2_misfit : Cond.instanceMethod yX2_misfit ∈ gT ∧ Cond.selects yX2_misfit.cls yX2_misfit yX2_misfit ∈ gT := ⟨gT_of 571 (by decide +kernel) (by decide +kernel), gT_of 19 (by decide +kernel) (by decide +kernel)⟩
theorem yk_X2_goesOn : YOK yX2_goesOn cX2_goesOn 3 (some .boolean) 1 := ⟨gT_of 120 (by decide +kernel) (by decide +kernel), gT_of 576 (by decide +kernel) (by decide +kernel), by decide +kernel, by decide +kernel, by decide +kernel⟩
theorem iv_X2_goesOn : Cond.instanceMethod yX2_goesOn ∈ gT ∧ Cond.selects yX2_goesOn.cls yX2_goesOn yX2_goesOn ∈ gT := ⟨gT_of 575 (by decide +kernel) (by decide +kernel), gT_of 20 (by decide +kernel) (by decide +kernel)⟩
theorem yk_X2_opens : YOK yX2_opens cX2_opens 2 (some .boolean) 1 := ⟨gT_of 120 (by decide +kernel) (by decide +kernel), gT_of 586 (by decide +kernel) (by decide +kernel), by decide +kernel, by decide +kernel, by decide +kernel⟩
theorem iv_X2_opens : Cond.instanceMethod yX2_opens ∈ gT ∧ Cond.selects yX2_opens.cls yX2_opens yX2_opens ∈ gT := ⟨gT_of 585 (by decide +kernel) (by decide +kernel), gT_of 21 (by decide +kernel) (by decide +kernel)⟩
theorem yk_X2_closes : YOK yX2_closes cX2_closes 3 (some .boolean) 2 := ⟨gT_of 120 (by decide +kernel) (by decide +kernel), gT_of 590 (by decide +kernel) (by decide +kernel), by decide +kernel, by decide +kernel, by decide +kernel⟩
theorem iv_X2_closes : Cond.instanceMethod yX2_closes ∈ gT ∧ Cond.selects yX2_closes.cls yX2_closes yX2_closes ∈ gT := ⟨gT_of 589 (by decide +kernel) (by decide +kernel), gT_of 22 (by decide +kernel) (by decide +kernel)⟩
theorem yk_X2_closer : YOK yX2_closer cX2_closer 1 (some .int) 1 := ⟨gT_of 120 (by decide +kernel) (by decide +kernel), gT_of 593 (by decide +kernel) (by decide +kernel), by decide +kernel, by decide +kernel, by decide +kernel⟩
theorem st_X2_closer : Cond.static yX2_closer ∈ gT := gT_of 592 (by decide +kernel) (by decide +kernel)
theorem yk_X2_untold : YOK yX2_untold cX2_untold 4 (some .int) 1 := ⟨gT_of 120 (by decide +kernel) (by decide +kernel), gT_of 597 (by decide +kernel) (by decide +kernel), by decide +kernel, by decide +kernel, by decide +kernel⟩
theorem iv_X2_untold : Cond.instanceMethod yX2_untold ∈ gT ∧ Cond.selects yX2_untold.cls yX2_untold yX2_untold ∈ gT := ⟨gT_of 596 (by decide +kernel) (by decide +kernel), gT_of 23 (by decide +kernel) (by decide +kernel)⟩
theorem yk_X2_standsInAnother : YOK yX2_standsInAnother cX2_standsInAnother 3 (some .boolean) 1 := ⟨gT_of 120 (by decide +kernel) (by decide +kernel), gT_of 605 (by decide +kernel) (by decide +kernel), by decide +kernel, by decide +kernel, by decide +kernel⟩
theorem iv_X2_standsInAnother : Cond.instanceMethod yX2_standsInAnother ∈ gT ∧ Cond.selects yX2_standsInAnother.cls yX2_standsInAnother yX2_standsInAnother ∈ gT := ⟨gT_of 604 (by decide +kernel) (by decide +kernel), gT_of 25 (by decide +kernel) (by decide +kernel)⟩
theorem yk_X2_keep : YOK yX2_keep cX2_keep 3 none 1 := ⟨gT_of 120 (by decide +kernel) (by decide +kernel), gT_of 609 (by decide +kernel) (by decide +kernel), by decide +kernel, by decide +kernel, by decide +kernel⟩
theorem iv_X2_keep : Cond.instanceMethod yX2_keep ∈ gT ∧ Cond.selects yX2_keep.cls yX2_keep yX2_keep ∈ gT := ⟨gT_of 608 (by decide +kernel) (by decide +kernel), gT_of 26 (by decide +kernel) (by decide +kernel)⟩
theorem yk_X2_putLast : YOK yX2_putLast cX2_putLast 4 none 1 := ⟨gT_of 120 (by decide +kernel) (by decide +kernel), gT_of 616 (by decide +kernel) (by decide +kernel), by decide +kernel, by decide +kernel, by decide +kernel⟩
theorem iv_X2_putLast : Cond.instanceMethod yX2_putLast ∈ gT ∧ Cond.selects yX2_putLast.cls yX2_putLast yX2_putLast ∈ gT := ⟨gT_of 615 (by decide +kernel) (by decide +kernel), gT_of 27 (by decide +kernel) (by decide +kernel)⟩
theorem yk_X2_within : YOK yX2_within cX2_within 4 (some .int) 1 := ⟨gT_of 120 (by decide +kernel) (by decide +kernel), gT_of 821 (by decide +kernel) (by decide +kernel), by decide +kernel, by decide +kernel, by decide +kernel⟩
theorem iv_X2_within : Cond.instanceMethod yX2_within ∈ gT ∧ Cond.selects yX2_within.cls yX2_within yX2_within ∈ gT := ⟨gT_of 820 (by decide +kernel) (by decide +kernel), gT_of 54 (by decide +kernel) (by decide +kernel)⟩
theorem yk_X3_isRecording : YOK yX3_isRecording cX3_isRecording 2 (some .boolean) 1 := ⟨gT_of 124 (by decide +kernel) (by decide +kernel), gT_of 910 (by decide +kernel) (by decide +kernel), by decide +kernel, by decide +kernel, by decide +kernel⟩
theorem iv_X3_isRecording : Cond.instanceMethod yX3_isRecording ∈ gT ∧ Cond.selects yX3_isRecording.cls yX3_isRecording yX3_isRecording ∈ gT := ⟨gT_of 909 (by decide +kernel) (by decide +kernel), gT_of 70 (by decide +kernel) (by decide +kernel)⟩
theorem yk_X3_addRecording : YOK yX3_addRecording cX3_addRecording 6 (some .int) 5 := ⟨gT_of 124 (by decide +kernel) (by decide +kernel), gT_of 901 (by decide +kernel) (by decide +kernel), by decide +kernel, by decide +kernel, by decide +kernel⟩
theorem iv_X3_addRecording : Cond.instanceMethod yX3_addRecording ∈ gT ∧ Cond.selects yX3_addRecording.cls yX3_addRecording yX3_addRecording ∈ gT := ⟨gT_of 900 (by decide +kernel) (by decide +kernel), gT_of 69 (by decide +kernel) (by decide +kernel)⟩
theorem yk_X3_isLost : YOK yX3_isLost cX3_isLost 3 (some .boolean) 2 := ⟨gT_of 124 (by decide +kernel) (by decide +kernel), gT_of 931 (by decide +kernel) (by decide +kernel), by decide +kernel, by decide +kernel, by decide +kernel⟩
theorem iv_X3_isLost : Cond.instanceMethod yX3_isLost ∈ gT ∧ Cond.selects yX3_isLost.cls yX3_isLost yX3_isLost ∈ gT := ⟨gT_of 930 (by decide +kernel) (by decide +kernel), gT_of 75 (by decide +kernel) (by decide +kernel)⟩
theorem yk_X3_lostPlaces : YOK yX3_lostPlaces cX3_lostPlaces 4 (some .int) 1 := ⟨gT_of 124 (by decide +kernel) (by decide +kernel), gT_of 927 (by decide +kernel) (by decide +kernel), by decide +kernel, by decide +kernel, by decide +kernel⟩
theorem iv_X3_lostPlaces : Cond.instanceMethod yX3_lostPlaces ∈ gT ∧ Cond.selects yX3_lostPlaces.cls yX3_lostPlaces yX3_lostPlaces ∈ gT := ⟨gT_of 926 (by decide +kernel) (by decide +kernel), gT_of 74 (by decide +kernel) (by decide +kernel)⟩
theorem yk_X3_lacking : YOK yX3_lacking cX3_lacking 7 (some .int) 2 := ⟨gT_of 124 (by decide +kernel) (by decide +kernel), gT_of 922 (by decide +kernel) (by decide +kernel), by decide +kernel, by decide +kernel, by decide +kernel⟩
theorem iv_X3_lacking : Cond.instanceMethod yX3_lacking ∈ gT ∧ Cond.selects yX3_lacking.cls yX3_lacking yX3_lacking ∈ gT := ⟨gT_of 921 (by decide +kernel) (by decide +kernel), gT_of 73 (by decide +kernel) (by decide +kernel)⟩
theorem yk_X4_perform : YOK yX4_perform cX4_perform 7 (some .boolean) 3 := ⟨gT_of 122 (by decide +kernel) (by decide +kernel), gT_of 642 (by decide +kernel) (by decide +kernel), by decide +kernel, by decide +kernel, by decide +kernel⟩
theorem iv_X4_perform : Cond.instanceMethod yX4_perform ∈ gT ∧ Cond.selects yX4_perform.cls yX4_perform yX4_perform ∈ gT := ⟨gT_of 641 (by decide +kernel) (by decide +kernel), gT_of 30 (by decide +kernel) (by decide +kernel)⟩
theorem yk_X4_keepSong : YOK yX4_keepSong cX4_keepSong 1 (some .boolean) 0 := ⟨gT_of 122 (by decide +kernel) (by decide +kernel), gT_of 651 (by decide +kernel) (by decide +kernel), by decide +kernel, by decide +kernel, by decide +kernel⟩
theorem iv_X4_keepSong : Cond.instanceMethod yX4_keepSong ∈ gT ∧ Cond.selects yX4_keepSong.cls yX4_keepSong yX4_keepSong ∈ gT := ⟨gT_of 650 (by decide +kernel) (by decide +kernel), gT_of 32 (by decide +kernel) (by decide +kernel)⟩
theorem yk_X4_enterScene : YOK yX4_enterScene cX4_enterScene 2 none 1 := ⟨gT_of 122 (by decide +kernel) (by decide +kernel), gT_of 646 (by decide +kernel) (by decide +kernel), by decide +kernel, by decide +kernel, by decide +kernel⟩
theorem iv_X4_enterScene : Cond.instanceMethod yX4_enterScene ∈ gT ∧ Cond.selects yX4_enterScene.cls yX4_enterScene yX4_enterScene ∈ gT := ⟨gT_of 645 (by decide +kernel) (by decide +kernel), gT_of 31 (by decide +kernel) (by decide +kernel)⟩
theorem yk_X4_goBack : YOK yX4_goBack cX4_goBack 1 none 0 := ⟨gT_of 122 (by decide +kernel) (by decide +kernel), gT_of 656 (by decide +kernel) (by decide +kernel), by decide +kernel, by decide +kernel, by decide +kernel⟩
theorem iv_X4_goBack : Cond.instanceMethod yX4_goBack ∈ gT ∧ Cond.selects yX4_goBack.cls yX4_goBack yX4_goBack ∈ gT := ⟨gT_of 655 (by decide +kernel) (by decide +kernel), gT_of 33 (by decide +kernel) (by decide +kernel)⟩
theorem yk_X4_await : YOK yX4_await cX4_await 2 (some .boolean) 1 := ⟨gT_of 122 (by decide +kernel) (by decide +kernel), gT_of 699 (by decide +kernel) (by decide +kernel), by decide +kernel, by decide +kernel, by decide +kernel⟩
theorem iv_X4_await : Cond.instanceMethod yX4_await ∈ gT ∧ Cond.selects yX4_await.cls yX4_await yX4_await ∈ gT := ⟨gT_of 698 (by decide +kernel) (by decide +kernel), gT_of 41 (by decide +kernel) (by decide +kernel)⟩
theorem yk_X4_takeSign : YOK yX4_takeSign cX4_takeSign 2 (some .boolean) 1 := ⟨gT_of 122 (by decide +kernel) (by decide +kernel), gT_of 664 (by decide +kernel) (by decide +kernel), by decide +kernel, by decide +kernel, by decide +kernel⟩
theorem iv_X4_takeSign : Cond.instanceMethod yX4_takeSign ∈ gT ∧ Cond.selects yX4_takeSign.cls yX4_takeSign yX4_takeSign ∈ gT := ⟨gT_of 663 (by decide +kernel) (by decide +kernel), gT_of 35 (by decide +kernel) (by decide +kernel)⟩
theorem yk_X4_takeItem : YOK yX4_takeItem cX4_takeItem 5 (some .boolean) 1 := ⟨gT_of 122 (by decide +kernel) (by decide +kernel), gT_of 676 (by decide +kernel) (by decide +kernel), by decide +kernel, by decide +kernel, by decide +kernel⟩
theorem iv_X4_takeItem : Cond.instanceMethod yX4_takeItem ∈ gT ∧ Cond.selects yX4_takeItem.cls yX4_takeItem yX4_takeItem ∈ gT := ⟨gT_of 675 (by decide +kernel) (by decide +kernel), gT_of 38 (by decide +kernel) (by decide +kernel)⟩
theorem yk_X4_again : YOK yX4_again cX4_again 1 (some .boolean) 0 := ⟨gT_of 122 (by decide +kernel) (by decide +kernel), gT_of 672 (by decide +kernel) (by decide +kernel), by decide +kernel, by decide +kernel, by decide +kernel⟩
theorem iv_X4_again : Cond.instanceMethod yX4_again ∈ gT ∧ Cond.selects yX4_again.cls yX4_again yX4_again ∈ gT := ⟨gT_of 671 (by decide +kernel) (by decide +kernel), gT_of 37 (by decide +kernel) (by decide +kernel)⟩
theorem yk_X4_singLine : YOK yX4_singLine cX4_singLine 4 (some .boolean) 1 := ⟨gT_of 122 (by decide +kernel) (by decide +kernel), gT_of 681 (by decide +kernel) (by decide +kernel), by decide +kernel, by decide +kernel, by decide +kernel⟩
theorem iv_X4_singLine : Cond.instanceMethod yX4_singLine ∈ gT ∧ Cond.selects yX4_singLine.cls yX4_singLine yX4_singLine ∈ gT := ⟨gT_of 680 (by decide +kernel) (by decide +kernel), gT_of 39 (by decide +kernel) (by decide +kernel)⟩
theorem yk_X4_choose : YOK yX4_choose cX4_choose 3 (some .int) 1 := ⟨gT_of 122 (by decide +kernel) (by decide +kernel), gT_of 691 (by decide +kernel) (by decide +kernel), by decide +kernel, by decide +kernel, by decide +kernel⟩
theorem iv_X4_choose : Cond.instanceMethod yX4_choose ∈ gT ∧ Cond.selects yX4_choose.cls yX4_choose yX4_choose ∈ gT := ⟨gT_of 690 (by decide +kernel) (by decide +kernel), gT_of 40 (by decide +kernel) (by decide +kernel)⟩
theorem yk_X5_isHalf : YOK yX5_isHalf cX5_isHalf 2 (some .boolean) 1 := ⟨gT_of 118 (by decide +kernel) (by decide +kernel), gT_of 468 (by decide +kernel) (by decide +kernel), by decide +kernel, by decide +kernel, by decide +kernel⟩
theorem iv_X5_isHalf : Cond.instanceMethod yX5_isHalf ∈ gT ∧ Cond.selects yX5_isHalf.cls yX5_isHalf yX5_isHalf ∈ gT := ⟨gT_of 467 (by decide +kernel) (by decide +kernel), gT_of 1 (by decide +kernel) (by decide +kernel)⟩
theorem yk_X5_isLine : YOK yX5_isLine cX5_isLine 2 (some .boolean) 1 := ⟨gT_of 118 (by decide +kernel) (by decide +kernel), gT_of 484 (by decide +kernel) (by decide +kernel), by decide +kernel, by decide +kernel, by decide +kernel⟩
theorem iv_X5_isLine : Cond.instanceMethod yX5_isLine ∈ gT ∧ Cond.selects yX5_isLine.cls yX5_isLine yX5_isLine ∈ gT := ⟨gT_of 483 (by decide +kernel) (by decide +kernel), gT_of 3 (by decide +kernel) (by decide +kernel)⟩
theorem yk_X5_addHalf : YOK yX5_addHalf cX5_addHalf 4 (some .int) 3 := ⟨gT_of 118 (by decide +kernel) (by decide +kernel), gT_of 456 (by decide +kernel) (by decide +kernel), by decide +kernel, by decide +kernel, by decide +kernel⟩
theorem iv_X5_addHalf : Cond.instanceMethod yX5_addHalf ∈ gT ∧ Cond.selects yX5_addHalf.cls yX5_addHalf yX5_addHalf ∈ gT := ⟨gT_of 455 (by decide +kernel) (by decide +kernel), gT_of 0 (by decide +kernel) (by decide +kernel)⟩
theorem yk_X5_addLine : YOK yX5_addLine cX5_addLine 6 (some .int) 5 := ⟨gT_of 118 (by decide +kernel) (by decide +kernel), gT_of 472 (by decide +kernel) (by decide +kernel), by decide +kernel, by decide +kernel, by decide +kernel⟩
theorem iv_X5_addLine : Cond.instanceMethod yX5_addLine ∈ gT ∧ Cond.selects yX5_addLine.cls yX5_addLine yX5_addLine ∈ gT := ⟨gT_of 471 (by decide +kernel) (by decide +kernel), gT_of 2 (by decide +kernel) (by decide +kernel)⟩
theorem yk_X5_sungBeats : YOK yX5_sungBeats cX5_sungBeats 3 (some .int) 2 := ⟨gT_of 118 (by decide +kernel) (by decide +kernel), gT_of 499 (by decide +kernel) (by decide +kernel), by decide +kernel, by decide +kernel, by decide +kernel⟩
theorem iv_X5_sungBeats : Cond.instanceMethod yX5_sungBeats ∈ gT ∧ Cond.selects yX5_sungBeats.cls yX5_sungBeats yX5_sungBeats ∈ gT := ⟨gT_of 498 (by decide +kernel) (by decide +kernel), gT_of 6 (by decide +kernel) (by decide +kernel)⟩
theorem yk_X5_sungHeavy : YOK yX5_sungHeavy cX5_sungHeavy 7 (some .int) 2 := ⟨gT_of 118 (by decide +kernel) (by decide +kernel), gT_of 503 (by decide +kernel) (by decide +kernel), by decide +kernel, by decide +kernel, by decide +kernel⟩
theorem iv_X5_sungHeavy : Cond.instanceMethod yX5_sungHeavy ∈ gT ∧ Cond.selects yX5_sungHeavy.cls yX5_sungHeavy yX5_sungHeavy ∈ gT := ⟨gT_of 502 (by decide +kernel) (by decide +kernel), gT_of 7 (by decide +kernel) (by decide +kernel)⟩
theorem yk_X5_lineBeats : YOK yX5_lineBeats cX5_lineBeats 3 (some .int) 1 := ⟨gT_of 118 (by decide +kernel) (by decide +kernel), gT_of 511 (by decide +kernel) (by decide +kernel), by decide +kernel, by decide +kernel, by decide +kernel⟩
theorem iv_X5_lineBeats : Cond.instanceMethod yX5_lineBeats ∈ gT ∧ Cond.selects yX5_lineBeats.cls yX5_lineBeats yX5_lineBeats ∈ gT := ⟨gT_of 510 (by decide +kernel) (by decide +kernel), gT_of 9 (by decide +kernel) (by decide +kernel)⟩
theorem yk_X5_lineHeavy : YOK yX5_lineHeavy cX5_lineHeavy 4 (some .int) 1 := ⟨gT_of 118 (by decide +kernel) (by decide +kernel), gT_of 515 (by decide +kernel) (by decide +kernel), by decide +kernel, by decide +kernel, by decide +kernel⟩
theorem iv_X5_lineHeavy : Cond.instanceMethod yX5_lineHeavy ∈ gT ∧ Cond.selects yX5_lineHeavy.cls yX5_lineHeavy yX5_lineHeavy ∈ gT := ⟨gT_of 514 (by decide +kernel) (by decide +kernel), gT_of 10 (by decide +kernel) (by decide +kernel)⟩
theorem yk_X5_fitsFirst : YOK yX5_fitsFirst cX5_fitsFirst 4 (some .boolean) 2 := ⟨gT_of 118 (by decide +kernel) (by decide +kernel), gT_of 495 (by decide +kernel) (by decide +kernel), by decide +kernel, by decide +kernel, by decide +kernel⟩
theorem iv_X5_fitsFirst : Cond.instanceMethod yX5_fitsFirst ∈ gT ∧ Cond.selects yX5_fitsFirst.cls yX5_fitsFirst yX5_fitsFirst ∈ gT := ⟨gT_of 494 (by decide +kernel) (by decide +kernel), gT_of 5 (by decide +kernel) (by decide +kernel)⟩
theorem yk_X5_fitsSecond : YOK yX5_fitsSecond cX5_fitsSecond 4 (some .boolean) 2 := ⟨gT_of 118 (by decide +kernel) (by decide +kernel), gT_of 507 (by decide +kernel) (by decide +kernel), by decide +kernel, by decide +kernel, by decide +kernel⟩
theorem iv_X5_fitsSecond : Cond.instanceMethod yX5_fitsSecond ∈ gT ∧ Cond.selects yX5_fitsSecond.cls yX5_fitsSecond yX5_fitsSecond ∈ gT := ⟨gT_of 506 (by decide +kernel) (by decide +kernel), gT_of 8 (by decide +kernel) (by decide +kernel)⟩
theorem yk_X5_scans : YOK yX5_scans cX5_scans 3 (some .boolean) 1 := ⟨gT_of 118 (by decide +kernel) (by decide +kernel), gT_of 491 (by decide +kernel) (by decide +kernel), by decide +kernel, by decide +kernel, by decide +kernel⟩
theorem iv_X5_scans : Cond.instanceMethod yX5_scans ∈ gT ∧ Cond.selects yX5_scans.cls yX5_scans yX5_scans ∈ gT := ⟨gT_of 490 (by decide +kernel) (by decide +kernel), gT_of 4 (by decide +kernel) (by decide +kernel)⟩
theorem yk_X5_scanning : YOK yX5_scanning cX5_scanning 3 (some .int) 0 := ⟨gT_of 118 (by decide +kernel) (by decide +kernel), gT_of 954 (by decide +kernel) (by decide +kernel), by decide +kernel, by decide +kernel, by decide +kernel⟩
theorem iv_X5_scanning : Cond.instanceMethod yX5_scanning ∈ gT ∧ Cond.selects yX5_scanning.cls yX5_scanning yX5_scanning ∈ gT := ⟨gT_of 953 (by decide +kernel) (by decide +kernel), gT_of 78 (by decide +kernel) (by decide +kernel)⟩
theorem yk_X5_leastFirst : YOK yX5_leastFirst cX5_leastFirst 3 (some .int) 1 := ⟨gT_of 118 (by decide +kernel) (by decide +kernel), gT_of 527 (by decide +kernel) (by decide +kernel), by decide +kernel, by decide +kernel, by decide +kernel⟩
theorem iv_X5_leastFirst : Cond.instanceMethod yX5_leastFirst ∈ gT ∧ Cond.selects yX5_leastFirst.cls yX5_leastFirst yX5_leastFirst ∈ gT := ⟨gT_of 526 (by decide +kernel) (by decide +kernel), gT_of 12 (by decide +kernel) (by decide +kernel)⟩
theorem yk_X5_leastSecond : YOK yX5_leastSecond cX5_leastSecond 3 (some .int) 1 := ⟨gT_of 118 (by decide +kernel) (by decide +kernel), gT_of 531 (by decide +kernel) (by decide +kernel), by decide +kernel, by decide +kernel, by decide +kernel⟩
theorem iv_X5_leastSecond : Cond.instanceMethod yX5_leastSecond ∈ gT ∧ Cond.selects yX5_leastSecond.cls yX5_leastSecond yX5_leastSecond ∈ gT := ⟨gT_of 530 (by decide +kernel) (by decide +kernel), gT_of 13 (by decide +kernel) (by decide +kernel)⟩
theorem yk_X5_putInPlace : YOK yX5_putInPlace cX5_putInPlace 7 (some .int) 2 := ⟨gT_of 118 (by decide +kernel) (by decide +kernel), gT_of 523 (by decide +kernel) (by decide +kernel), by decide +kernel, by decide +kernel, by decide +kernel⟩
theorem iv_X5_putInPlace : Cond.instanceMethod yX5_putInPlace ∈ gT ∧ Cond.selects yX5_putInPlace.cls yX5_putInPlace yX5_putInPlace ∈ gT := ⟨gT_of 522 (by decide +kernel) (by decide +kernel), gT_of 11 (by decide +kernel) (by decide +kernel)⟩
theorem yk_X5_mend : YOK yX5_mend cX5_mend 5 (some .boolean) 3 := ⟨gT_of 118 (by decide +kernel) (by decide +kernel), gT_of 536 (by decide +kernel) (by decide +kernel), by decide +kernel, by decide +kernel, by decide +kernel⟩
theorem iv_X5_mend : Cond.instanceMethod yX5_mend ∈ gT ∧ Cond.selects yX5_mend.cls yX5_mend yX5_mend ∈ gT := ⟨gT_of 535 (by decide +kernel) (by decide +kernel), gT_of 14 (by decide +kernel) (by decide +kernel)⟩
theorem yk_X5_noteBroken : YOK yX5_noteBroken cX5_noteBroken 2 none 1 := ⟨gT_of 118 (by decide +kernel) (by decide +kernel), gT_of 540 (by decide +kernel) (by decide +kernel), by decide +kernel, by decide +kernel, by decide +kernel⟩
theorem iv_X5_noteBroken : Cond.instanceMethod yX5_noteBroken ∈ gT ∧ Cond.selects yX5_noteBroken.cls yX5_noteBroken yX5_noteBroken ∈ gT := ⟨gT_of 539 (by decide +kernel) (by decide +kernel), gT_of 15 (by decide +kernel) (by decide +kernel)⟩
theorem yk_X6_half : YOK yX6_half cX6_half 4 (some .int) 3 := ⟨gT_of 117 (by decide +kernel) (by decide +kernel), gT_of 446 (by decide +kernel) (by decide +kernel), by decide +kernel, by decide +kernel, by decide +kernel⟩
theorem iv_X6_half : Cond.instanceMethod yX6_half ∈ gT ∧ Cond.selects yX6_half.cls yX6_half yX6_half ∈ gT := ⟨gT_of 444 (by decide +kernel) (by decide +kernel), gT_of 445 (by decide +kernel) (by decide +kernel)⟩
theorem yk_X6_name : YOK yX6_name cX6_name 5 (some .int) 3 := ⟨gT_of 117 (by decide +kernel) (by decide +kernel), gT_of 460 (by decide +kernel) (by decide +kernel), by decide +kernel, by decide +kernel, by decide +kernel⟩
theorem iv_X6_name : Cond.instanceMethod yX6_name ∈ gT ∧ Cond.selects yX6_name.cls yX6_name yX6_name ∈ gT := ⟨gT_of 458 (by decide +kernel) (by decide +kernel), gT_of 459 (by decide +kernel) (by decide +kernel)⟩
theorem yk_X6_line : YOK yX6_line cX6_line 6 (some .int) 5 := ⟨gT_of 117 (by decide +kernel) (by decide +kernel), gT_of 464 (by decide +kernel) (by decide +kernel), by decide +kernel, by decide +kernel, by decide +kernel⟩
theorem iv_X6_line : Cond.instanceMethod yX6_line ∈ gT ∧ Cond.selects yX6_line.cls yX6_line yX6_line ∈ gT := ⟨gT_of 462 (by decide +kernel) (by decide +kernel), gT_of 463 (by decide +kernel) (by decide +kernel)⟩
theorem yk_X6_metre : YOK yX6_metre cX6_metre 4 (some .int) 2 := ⟨gT_of 117 (by decide +kernel) (by decide +kernel), gT_of 476 (by decide +kernel) (by decide +kernel), by decide +kernel, by decide +kernel, by decide +kernel⟩
theorem iv_X6_metre : Cond.instanceMethod yX6_metre ∈ gT ∧ Cond.selects yX6_metre.cls yX6_metre yX6_metre ∈ gT := ⟨gT_of 474 (by decide +kernel) (by decide +kernel), gT_of 475 (by decide +kernel) (by decide +kernel)⟩
theorem yk_X6_told : YOK yX6_told cX6_told 3 (some .int) 2 := ⟨gT_of 117 (by decide +kernel) (by decide +kernel), gT_of 480 (by decide +kernel) (by decide +kernel), by decide +kernel, by decide +kernel, by decide +kernel⟩
theorem iv_X6_told : Cond.instanceMethod yX6_told ∈ gT ∧ Cond.selects yX6_told.cls yX6_told yX6_told ∈ gT := ⟨gT_of 478 (by decide +kernel) (by decide +kernel), gT_of 479 (by decide +kernel) (by decide +kernel)⟩
theorem yk_X6_swap : YOK yX6_swap cX6_swap 3 (some .int) 2 := ⟨gT_of 117 (by decide +kernel) (by decide +kernel), gT_of 519 (by decide +kernel) (by decide +kernel), by decide +kernel, by decide +kernel, by decide +kernel⟩
theorem iv_X6_swap : Cond.instanceMethod yX6_swap ∈ gT ∧ Cond.selects yX6_swap.cls yX6_swap yX6_swap ∈ gT := ⟨gT_of 517 (by decide +kernel) (by decide +kernel), gT_of 518 (by decide +kernel) (by decide +kernel)⟩
theorem yk_X6_broken : YOK yX6_broken cX6_broken 2 (some .int) 1 := ⟨gT_of 117 (by decide +kernel) (by decide +kernel), gT_of 544 (by decide +kernel) (by decide +kernel), by decide +kernel, by decide +kernel, by decide +kernel⟩
theorem iv_X6_broken : Cond.instanceMethod yX6_broken ∈ gT ∧ Cond.selects yX6_broken.cls yX6_broken yX6_broken ∈ gT := ⟨gT_of 542 (by decide +kernel) (by decide +kernel), gT_of 543 (by decide +kernel) (by decide +kernel)⟩
theorem yk_X6_feed : YOK yX6_feed cX6_feed 4 (some .int) 2 := ⟨gT_of 117 (by decide +kernel) (by decide +kernel), gT_of 551 (by decide +kernel) (by decide +kernel), by decide +kernel, by decide +kernel, by decide +kernel⟩
theorem iv_X6_feed : Cond.instanceMethod yX6_feed ∈ gT ∧ Cond.selects yX6_feed.cls yX6_feed yX6_feed ∈ gT := ⟨gT_of 549 (by decide +kernel) (by decide +kernel), gT_of 550 (by decide +kernel) (by decide +kernel)⟩
theorem yk_X6_scene : YOK yX6_scene cX6_scene 1 (some .int) 0 := ⟨gT_of 117 (by decide +kernel) (by decide +kernel), gT_of 560 (by decide +kernel) (by decide +kernel), by decide +kernel, by decide +kernel, by decide +kernel⟩
theorem iv_X6_scene : Cond.instanceMethod yX6_scene ∈ gT ∧ Cond.selects yX6_scene.cls yX6_scene yX6_scene ∈ gT := ⟨gT_of 558 (by decide +kernel) (by decide +kernel), gT_of 559 (by decide +kernel) (by decide +kernel)⟩
theorem yk_X6_hall : YOK yX6_hall cX6_hall 3 (some .int) 1 := ⟨gT_of 117 (by decide +kernel) (by decide +kernel), gT_of 620 (by decide +kernel) (by decide +kernel), by decide +kernel, by decide +kernel, by decide +kernel⟩
theorem iv_X6_hall : Cond.instanceMethod yX6_hall ∈ gT ∧ Cond.selects yX6_hall.cls yX6_hall yX6_hall ∈ gT := ⟨gT_of 618 (by decide +kernel) (by decide +kernel), gT_of 619 (by decide +kernel) (by decide +kernel)⟩
theorem yk_X6_sing : YOK yX6_sing cX6_sing 7 (some .int) 4 := ⟨gT_of 117 (by decide +kernel) (by decide +kernel), gT_of 624 (by decide +kernel) (by decide +kernel), by decide +kernel, by decide +kernel, by decide +kernel⟩
theorem iv_X6_sing : Cond.instanceMethod yX6_sing ∈ gT ∧ Cond.selects yX6_sing.cls yX6_sing yX6_sing ∈ gT := ⟨gT_of 622 (by decide +kernel) (by decide +kernel), gT_of 623 (by decide +kernel) (by decide +kernel)⟩
theorem yk_X6_sung : YOK yX6_sung cX6_sung 2 (some .int) 1 := ⟨gT_of 117 (by decide +kernel) (by decide +kernel), gT_of 703 (by decide +kernel) (by decide +kernel), by decide +kernel, by decide +kernel, by decide +kernel⟩
theorem iv_X6_sung : Cond.instanceMethod yX6_sung ∈ gT ∧ Cond.selects yX6_sung.cls yX6_sung yX6_sung ∈ gT := ⟨gT_of 701 (by decide +kernel) (by decide +kernel), gT_of 702 (by decide +kernel) (by decide +kernel)⟩
theorem yk_X6_singer : YOK yX6_singer cX6_singer 2 (some .int) 1 := ⟨gT_of 117 (by decide +kernel) (by decide +kernel), gT_of 707 (by decide +kernel) (by decide +kernel), by decide +kernel, by decide +kernel, by decide +kernel⟩
theorem iv_X6_singer : Cond.instanceMethod yX6_singer ∈ gT ∧ Cond.selects yX6_singer.cls yX6_singer yX6_singer ∈ gT := ⟨gT_of 705 (by decide +kernel) (by decide +kernel), gT_of 706 (by decide +kernel) (by decide +kernel)⟩
theorem yk_X6_village : YOK yX6_village cX6_village 4 (some .int) 2 := ⟨gT_of 117 (by decide +kernel) (by decide +kernel), gT_of 715 (by decide +kernel) (by decide +kernel), by decide +kernel, by decide +kernel, by decide +kernel⟩
theorem iv_X6_village : Cond.instanceMethod yX6_village ∈ gT ∧ Cond.selects yX6_village.cls yX6_village yX6_village ∈ gT := ⟨gT_of 713 (by decide +kernel) (by decide +kernel), gT_of 714 (by decide +kernel) (by decide +kernel)⟩
theorem yk_X6_learn : YOK yX6_learn cX6_learn 5 (some .int) 4 := ⟨gT_of 117 (by decide +kernel) (by decide +kernel), gT_of 719 (by decide +kernel) (by decide +kernel), by decide +kernel, by decide +kernel, by decide +kernel⟩
theorem iv_X6_learn : Cond.instanceMethod yX6_learn ∈ gT ∧ Cond.selects yX6_learn.cls yX6_learn yX6_learn ∈ gT := ⟨gT_of 717 (by decide +kernel) (by decide +kernel), gT_of 718 (by decide +kernel) (by decide +kernel)⟩
theorem yk_X6_forget : YOK yX6_forget cX6_forget 4 (some .int) 3 := ⟨gT_of 117 (by decide +kernel) (by decide +kernel), gT_of 727 (by decide +kernel) (by decide +kernel), by decide +kernel, by decide +kernel, by decide +kernel⟩
theorem iv_X6_forget : Cond.instanceMethod yX6_forget ∈ gT ∧ Cond.selects yX6_forget.cls yX6_forget yX6_forget ∈ gT := ⟨gT_of 725 (by decide +kernel) (by decide +kernel), gT_of 726 (by decide +kernel) (by decide +kernel)⟩
theorem yk_X6_has : YOK yX6_has cX6_has 5 (some .int) 4 := ⟨gT_of 117 (by decide +kernel) (by decide +kernel), gT_of 731 (by decide +kernel) (by decide +kernel), by decide +kernel, by decide +kernel, by decide +kernel⟩
theorem iv_X6_has : Cond.instanceMethod yX6_has ∈ gT ∧ Cond.selects yX6_has.cls yX6_has yX6_has ∈ gT := ⟨gT_of 729 (by decide +kernel) (by decide +kernel), gT_of 730 (by decide +kernel) (by decide +kernel)⟩
theorem yk_X6_stock : YOK yX6_stock cX6_stock 4 (some .int) 3 := ⟨gT_of 117 (by decide +kernel) (by decide +kernel), gT_of 739 (by decide +kernel) (by decide +kernel), by decide +kernel, by decide +kernel, by decide +kernel⟩
theorem iv_X6_stock : Cond.instanceMethod yX6_stock ∈ gT ∧ Cond.selects yX6_stock.cls yX6_stock yX6_stock ∈ gT := ⟨gT_of 737 (by decide +kernel) (by decide +kernel), gT_of 738 (by decide +kernel) (by decide +kernel)⟩
theorem yk_X6_unlike : YOK yX6_unlike cX6_unlike 5 (some .int) 4 := ⟨gT_of 117 (by decide +kernel) (by decide +kernel), gT_of 744 (by decide +kernel) (by decide +kernel), by decide +kernel, by decide +kernel, by decide +kernel⟩
theorem iv_X6_unlike : Cond.instanceMethod yX6_unlike ∈ gT ∧ Cond.selects yX6_unlike.cls yX6_unlike yX6_unlike ∈ gT := ⟨gT_of 742 (by decide +kernel) (by decide +kernel), gT_of 743 (by decide +kernel) (by decide +kernel)⟩
theorem yk_X6_master : YOK yX6_master cX6_master 4 (some .int) 3 := ⟨gT_of 117 (by decide +kernel) (by decide +kernel), gT_of 758 (by decide +kernel) (by decide +kernel), by decide +kernel, by decide +kernel, by decide +kernel⟩
theorem iv_X6_master : Cond.instanceMethod yX6_master ∈ gT ∧ Cond.selects yX6_master.cls yX6_master yX6_master ∈ gT := ⟨gT_of 756 (by decide +kernel) (by decide +kernel), gT_of 757 (by decide +kernel) (by decide +kernel)⟩
theorem yk_X6_lineage : YOK yX6_lineage cX6_lineage 6 (some .int) 2 := ⟨gT_of 117 (by decide +kernel) (by decide +kernel), gT_of 771 (by decide +kernel) (by decide +kernel), by decide +kernel, by decide +kernel, by decide +kernel⟩
theorem iv_X6_lineage : Cond.instanceMethod yX6_lineage ∈ gT ∧ Cond.selects yX6_lineage.cls yX6_lineage yX6_lineage ∈ gT := ⟨gT_of 769 (by decide +kernel) (by decide +kernel), gT_of 770 (by decide +kernel) (by decide +kernel)⟩
theorem yk_X6_loan : YOK yX6_loan cX6_loan 7 (some .int) 4 := ⟨gT_of 117 (by decide +kernel) (by decide +kernel), gT_of 775 (by decide +kernel) (by decide +kernel), by decide +kernel, by decide +kernel, by decide +kernel⟩
theorem iv_X6_loan : Cond.instanceMethod yX6_loan ∈ gT ∧ Cond.selects yX6_loan.cls yX6_loan yX6_loan ∈ gT := ⟨gT_of 773 (by decide +kernel) (by decide +kernel), gT_of 774 (by decide +kernel) (by decide +kernel)⟩
theorem yk_X6_core : YOK yX6_core cX6_core 6 (some .int) 3 := ⟨gT_of 117 (by decide +kernel) (by decide +kernel), gT_of 785 (by decide +kernel) (by decide +kernel), by decide +kernel, by decide +kernel, by decide +kernel⟩
theorem iv_X6_core : Cond.instanceMethod yX6_core ∈ gT ∧ Cond.selects yX6_core.cls yX6_core yX6_core ∈ gT := ⟨gT_of 783 (by decide +kernel) (by decide +kernel), gT_of 784 (by decide +kernel) (by decide +kernel)⟩
theorem yk_X6_whose : YOK yX6_whose cX6_whose 4 (some .int) 3 := ⟨gT_of 117 (by decide +kernel) (by decide +kernel), gT_of 794 (by decide +kernel) (by decide +kernel), by decide +kernel, by decide +kernel, by decide +kernel⟩
theorem iv_X6_whose : Cond.instanceMethod yX6_whose ∈ gT ∧ Cond.selects yX6_whose.cls yX6_whose yX6_whose ∈ gT := ⟨gT_of 792 (by decide +kernel) (by decide +kernel), gT_of 793 (by decide +kernel) (by decide +kernel)⟩
theorem yk_X6_put : YOK yX6_put cX6_put 3 (some .int) 2 := ⟨gT_of 117 (by decide +kernel) (by decide +kernel), gT_of 803 (by decide +kernel) (by decide +kernel), by decide +kernel, by decide +kernel, by decide +kernel⟩
theorem iv_X6_put : Cond.instanceMethod yX6_put ∈ gT ∧ Cond.selects yX6_put.cls yX6_put yX6_put ∈ gT := ⟨gT_of 801 (by decide +kernel) (by decide +kernel), gT_of 802 (by decide +kernel) (by decide +kernel)⟩
theorem yk_X6_runs : YOK yX6_runs cX6_runs 5 (some .int) 4 := ⟨gT_of 117 (by decide +kernel) (by decide +kernel), gT_of 807 (by decide +kernel) (by decide +kernel), by decide +kernel, by decide +kernel, by decide +kernel⟩
theorem iv_X6_runs : Cond.instanceMethod yX6_runs ∈ gT ∧ Cond.selects yX6_runs.cls yX6_runs yX6_runs ∈ gT := ⟨gT_of 805 (by decide +kernel) (by decide +kernel), gT_of 806 (by decide +kernel) (by decide +kernel)⟩
theorem yk_X6_forged : YOK yX6_forged cX6_forged 7 (some .int) 3 := ⟨gT_of 117 (by decide +kernel) (by decide +kernel), gT_of 888 (by decide +kernel) (by decide +kernel), by decide +kernel, by decide +kernel, by decide +kernel⟩
theorem iv_X6_forged : Cond.instanceMethod yX6_forged ∈ gT ∧ Cond.selects yX6_forged.cls yX6_forged yX6_forged ∈ gT := ⟨gT_of 886 (by decide +kernel) (by decide +kernel), gT_of 887 (by decide +kernel) (by decide +kernel)⟩
theorem yk_X6_record : YOK yX6_record cX6_record 4 (some .int) 3 := ⟨gT_of 117 (by decide +kernel) (by decide +kernel), gT_of 897 (by decide +kernel) (by decide +kernel), by decide +kernel, by decide +kernel, by decide +kernel⟩
theorem iv_X6_record : Cond.instanceMethod yX6_record ∈ gT ∧ Cond.selects yX6_record.cls yX6_record yX6_record ∈ gT := ⟨gT_of 895 (by decide +kernel) (by decide +kernel), gT_of 896 (by decide +kernel) (by decide +kernel)⟩
theorem yk_X6_heard : YOK yX6_heard cX6_heard 4 (some .int) 3 := ⟨gT_of 117 (by decide +kernel) (by decide +kernel), gT_of 906 (by decide +kernel) (by decide +kernel), by decide +kernel, by decide +kernel, by decide +kernel⟩
theorem iv_X6_heard : Cond.instanceMethod yX6_heard ∈ gT ∧ Cond.selects yX6_heard.cls yX6_heard yX6_heard ∈ gT := ⟨gT_of 904 (by decide +kernel) (by decide +kernel), gT_of 905 (by decide +kernel) (by decide +kernel)⟩
theorem yk_X6_filled : YOK yX6_filled cX6_filled 5 (some .int) 3 := ⟨gT_of 117 (by decide +kernel) (by decide +kernel), gT_of 935 (by decide +kernel) (by decide +kernel), by decide +kernel, by decide +kernel, by decide +kernel⟩
theorem iv_X6_filled : Cond.instanceMethod yX6_filled ∈ gT ∧ Cond.selects yX6_filled.cls yX6_filled yX6_filled ∈ gT := ⟨gT_of 933 (by decide +kernel) (by decide +kernel), gT_of 934 (by decide +kernel) (by decide +kernel)⟩
theorem yk_X6_count : YOK yX6_count cX6_count 2 (some .int) 1 := ⟨gT_of 117 (by decide +kernel) (by decide +kernel), gT_of 950 (by decide +kernel) (by decide +kernel), by decide +kernel, by decide +kernel, by decide +kernel⟩
theorem iv_X6_count : Cond.instanceMethod yX6_count ∈ gT ∧ Cond.selects yX6_count.cls yX6_count yX6_count ∈ gT := ⟨gT_of 948 (by decide +kernel) (by decide +kernel), gT_of 949 (by decide +kernel) (by decide +kernel)⟩
theorem yk_X6_stockBehind : YOK yX6_stockBehind cX6_stockBehind 3 (some .long) 2 := ⟨gT_of 117 (by decide +kernel) (by decide +kernel), gT_of 918 (by decide +kernel) (by decide +kernel), by decide +kernel, by decide +kernel, by decide +kernel⟩
theorem iv_X6_stockBehind : Cond.instanceMethod yX6_stockBehind ∈ gT ∧ Cond.selects yX6_stockBehind.cls yX6_stockBehind yX6_stockBehind ∈ gT := ⟨gT_of 917 (by decide +kernel) (by decide +kernel), gT_of 72 (by decide +kernel) (by decide +kernel)⟩
theorem yk_X6_takeRecording : YOK yX6_takeRecording cX6_takeRecording 3 none 2 := ⟨gT_of 117 (by decide +kernel) (by decide +kernel), gT_of 914 (by decide +kernel) (by decide +kernel), by decide +kernel, by decide +kernel, by decide +kernel⟩
theorem iv_X6_takeRecording : Cond.instanceMethod yX6_takeRecording ∈ gT ∧ Cond.selects yX6_takeRecording.cls yX6_takeRecording yX6_takeRecording ∈ gT := ⟨gT_of 913 (by decide +kernel) (by decide +kernel), gT_of 71 (by decide +kernel) (by decide +kernel)⟩
theorem yk_X6_inside : YOK yX6_inside cX6_inside 3 (some .boolean) 3 := ⟨gT_of 117 (by decide +kernel) (by decide +kernel), gT_of 449 (by decide +kernel) (by decide +kernel), by decide +kernel, by decide +kernel, by decide +kernel⟩
theorem st_X6_inside : Cond.static yX6_inside ∈ gT := gT_of 448 (by decide +kernel) (by decide +kernel)
theorem yk_X6_areBits : YOK yX6_areBits cX6_areBits 2 (some .boolean) 2 := ⟨gT_of 117 (by decide +kernel) (by decide +kernel), gT_of 452 (by decide +kernel) (by decide +kernel), by decide +kernel, by decide +kernel, by decide +kernel⟩
theorem st_X6_areBits : Cond.static yX6_areBits ∈ gT := gT_of 451 (by decide +kernel) (by decide +kernel)
theorem yk_X6_isYear : YOK yX6_isYear cX6_isYear 1 (some .boolean) 1 := ⟨gT_of 117 (by decide +kernel) (by decide +kernel), gT_of 632 (by decide +kernel) (by decide +kernel), by decide +kernel, by decide +kernel, by decide +kernel⟩
theorem st_X6_isYear : Cond.static yX6_isYear ∈ gT := gT_of 631 (by decide +kernel) (by decide +kernel)
theorem yk_X6_bit : YOK yX6_bit cX6_bit 3 (some .int) 2 := ⟨gT_of 117 (by decide +kernel) (by decide +kernel), gT_of 487 (by decide +kernel) (by decide +kernel), by decide +kernel, by decide +kernel, by decide +kernel⟩
theorem st_X6_bit : Cond.static yX6_bit ∈ gT := gT_of 486 (by decide +kernel) (by decide +kernel)
theorem yk_X6_listed : YOK yX6_listed cX6_listed 3 (some .int) 3 := ⟨gT_of 117 (by decide +kernel) (by decide +kernel), gT_of 547 (by decide +kernel) (by decide +kernel), by decide +kernel, by decide +kernel, by decide +kernel⟩
theorem st_X6_listed : Cond.static yX6_listed ∈ gT := gT_of 546 (by decide +kernel) (by decide +kernel)
theorem yk_X6_pick : YOK yX6_pick cX6_pick 5 (some .int) 2 := ⟨gT_of 117 (by decide +kernel) (by decide +kernel), gT_of 694 (by decide +kernel) (by decide +kernel), by decide +kernel, by decide +kernel, by decide +kernel⟩
theorem st_X6_pick : Cond.static yX6_pick ∈ gT := gT_of 693 (by decide +kernel) (by decide +kernel)
theorem yk_X6_isSlot : YOK yX6_isSlot cX6_isSlot 1 (some .boolean) 1 := ⟨gT_of 117 (by decide +kernel) (by decide +kernel), gT_of 582 (by decide +kernel) (by decide +kernel), by decide +kernel, by decide +kernel, by decide +kernel⟩
theorem st_X6_isSlot : Cond.static yX6_isSlot ∈ gT := gT_of 581 (by decide +kernel) (by decide +kernel)
theorem yk_X6_isScene : YOK yX6_isScene cX6_isScene 1 (some .boolean) 1 := ⟨gT_of 117 (by decide +kernel) (by decide +kernel), gT_of 579 (by decide +kernel) (by decide +kernel), by decide +kernel, by decide +kernel, by decide +kernel⟩
theorem st_X6_isScene : Cond.static yX6_isScene ∈ gT := gT_of 578 (by decide +kernel) (by decide +kernel)
theorem yk_X7_isIn : YOK yX7_isIn cX7_isIn 6 (some .boolean) 3 := ⟨gT_of 125 (by decide +kernel) (by decide +kernel), gT_of 1149 (by decide +kernel) (by decide +kernel), by decide +kernel, by decide +kernel, by decide +kernel⟩
theorem st_X7_isIn : Cond.static yX7_isIn ∈ gT := gT_of 1148 (by decide +kernel) (by decide +kernel)
theorem yk_X7_isHalf : YOK yX7_isHalf cX7_isHalf 2 (some .boolean) 1 := ⟨gT_of 125 (by decide +kernel) (by decide +kernel), gT_of 1166 (by decide +kernel) (by decide +kernel), by decide +kernel, by decide +kernel, by decide +kernel⟩
theorem iv_X7_isHalf : Cond.instanceMethod yX7_isHalf ∈ gT ∧ Cond.selects yX7_isHalf.cls yX7_isHalf yX7_isHalf ∈ gT := ⟨gT_of 1165 (by decide +kernel) (by decide +kernel), gT_of 79 (by decide +kernel) (by decide +kernel)⟩
theorem yk_X7_isLine : YOK yX7_isLine cX7_isLine 2 (some .boolean) 1 := ⟨gT_of 125 (by decide +kernel) (by decide +kernel), gT_of 1182 (by decide +kernel) (by decide +kernel), by decide +kernel, by decide +kernel, by decide +kernel⟩
theorem iv_X7_isLine : Cond.instanceMethod yX7_isLine ∈ gT ∧ Cond.selects yX7_isLine.cls yX7_isLine yX7_isLine ∈ gT := ⟨gT_of 1181 (by decide +kernel) (by decide +kernel), gT_of 80 (by decide +kernel) (by decide +kernel)⟩
theorem yk_X7_isName : YOK yX7_isName cX7_isName 1 (some .boolean) 1 := ⟨gT_of 125 (by decide +kernel) (by decide +kernel), gT_of 1157 (by decide +kernel) (by decide +kernel), by decide +kernel, by decide +kernel, by decide +kernel⟩
theorem st_X7_isName : Cond.static yX7_isName ∈ gT := gT_of 1156 (by decide +kernel) (by decide +kernel)
theorem yk_X7_half : YOK yX7_half cX7_half 4 (some .int) 3 := ⟨gT_of 125 (by decide +kernel) (by decide +kernel), gT_of 1145 (by decide +kernel) (by decide +kernel), by decide +kernel, by decide +kernel, by decide +kernel⟩
theorem iv_X7_half : Cond.instanceMethod yX7_half ∈ gT ∧ Cond.selects yX7_half.cls yX7_half yX7_half ∈ gT := ⟨gT_of 1143 (by decide +kernel) (by decide +kernel), gT_of 1144 (by decide +kernel) (by decide +kernel)⟩
theorem yk_X7_name : YOK yX7_name cX7_name 5 (some .int) 3 := ⟨gT_of 125 (by decide +kernel) (by decide +kernel), gT_of 1154 (by decide +kernel) (by decide +kernel), by decide +kernel, by decide +kernel, by decide +kernel⟩
theorem iv_X7_name : Cond.instanceMethod yX7_name ∈ gT ∧ Cond.selects yX7_name.cls yX7_name yX7_name ∈ gT := ⟨gT_of 1152 (by decide +kernel) (by decide +kernel), gT_of 1153 (by decide +kernel) (by decide +kernel)⟩
theorem yk_X7_line : YOK yX7_line cX7_line 6 (some .int) 5 := ⟨gT_of 125 (by decide +kernel) (by decide +kernel), gT_of 1162 (by decide +kernel) (by decide +kernel), by decide +kernel, by decide +kernel, by decide +kernel⟩
theorem iv_X7_line : Cond.instanceMethod yX7_line ∈ gT ∧ Cond.selects yX7_line.cls yX7_line yX7_line ∈ gT := ⟨gT_of 1160 (by decide +kernel) (by decide +kernel), gT_of 1161 (by decide +kernel) (by decide +kernel)⟩
theorem yk_X7_metre : YOK yX7_metre cX7_metre 4 (some .int) 2 := ⟨gT_of 125 (by decide +kernel) (by decide +kernel), gT_of 1171 (by decide +kernel) (by decide +kernel), by decide +kernel, by decide +kernel, by decide +kernel⟩
theorem iv_X7_metre : Cond.instanceMethod yX7_metre ∈ gT ∧ Cond.selects yX7_metre.cls yX7_metre yX7_metre ∈ gT := ⟨gT_of 1169 (by decide +kernel) (by decide +kernel), gT_of 1170 (by decide +kernel) (by decide +kernel)⟩
theorem yk_X7_longOf : YOK yX7_longOf cX7_longOf 3 (some .int) 2 := ⟨gT_of 125 (by decide +kernel) (by decide +kernel), gT_of 1190 (by decide +kernel) (by decide +kernel), by decide +kernel, by decide +kernel, by decide +kernel⟩
theorem iv_X7_longOf : Cond.instanceMethod yX7_longOf ∈ gT ∧ Cond.selects yX7_longOf.cls yX7_longOf yX7_longOf ∈ gT := ⟨gT_of 1189 (by decide +kernel) (by decide +kernel), gT_of 82 (by decide +kernel) (by decide +kernel)⟩
theorem yk_X7_heavyOf : YOK yX7_heavyOf cX7_heavyOf 5 (some .int) 2 := ⟨gT_of 125 (by decide +kernel) (by decide +kernel), gT_of 1198 (by decide +kernel) (by decide +kernel), by decide +kernel, by decide +kernel, by decide +kernel⟩
theorem iv_X7_heavyOf : Cond.instanceMethod yX7_heavyOf ∈ gT ∧ Cond.selects yX7_heavyOf.cls yX7_heavyOf yX7_heavyOf ∈ gT := ⟨gT_of 1197 (by decide +kernel) (by decide +kernel), gT_of 84 (by decide +kernel) (by decide +kernel)⟩
theorem yk_X7_heavyAll : YOK yX7_heavyAll cX7_heavyAll 4 (some .int) 3 := ⟨gT_of 125 (by decide +kernel) (by decide +kernel), gT_of 1194 (by decide +kernel) (by decide +kernel), by decide +kernel, by decide +kernel, by decide +kernel⟩
theorem iv_X7_heavyAll : Cond.instanceMethod yX7_heavyAll ∈ gT ∧ Cond.selects yX7_heavyAll.cls yX7_heavyAll yX7_heavyAll ∈ gT := ⟨gT_of 1193 (by decide +kernel) (by decide +kernel), gT_of 83 (by decide +kernel) (by decide +kernel)⟩
theorem yk_X7_scans : YOK yX7_scans cX7_scans 4 (some .boolean) 3 := ⟨gT_of 125 (by decide +kernel) (by decide +kernel), gT_of 1186 (by decide +kernel) (by decide +kernel), by decide +kernel, by decide +kernel, by decide +kernel⟩
theorem iv_X7_scans : Cond.instanceMethod yX7_scans ∈ gT ∧ Cond.selects yX7_scans.cls yX7_scans yX7_scans ∈ gT := ⟨gT_of 1185 (by decide +kernel) (by decide +kernel), gT_of 81 (by decide +kernel) (by decide +kernel)⟩
theorem yk_X7_told : YOK yX7_told cX7_told 3 (some .int) 2 := ⟨gT_of 125 (by decide +kernel) (by decide +kernel), gT_of 1178 (by decide +kernel) (by decide +kernel), by decide +kernel, by decide +kernel, by decide +kernel⟩
theorem iv_X7_told : Cond.instanceMethod yX7_told ∈ gT ∧ Cond.selects yX7_told.cls yX7_told yX7_told ∈ gT := ⟨gT_of 1176 (by decide +kernel) (by decide +kernel), gT_of 1177 (by decide +kernel) (by decide +kernel)⟩
theorem yk_X7_mends : YOK yX7_mends cX7_mends 8 (some .boolean) 1 := ⟨gT_of 125 (by decide +kernel) (by decide +kernel), gT_of 1206 (by decide +kernel) (by decide +kernel), by decide +kernel, by decide +kernel, by decide +kernel⟩
theorem iv_X7_mends : Cond.instanceMethod yX7_mends ∈ gT ∧ Cond.selects yX7_mends.cls yX7_mends yX7_mends ∈ gT := ⟨gT_of 1205 (by decide +kernel) (by decide +kernel), gT_of 85 (by decide +kernel) (by decide +kernel)⟩
theorem yk_X7_swap : YOK yX7_swap cX7_swap 5 (some .int) 2 := ⟨gT_of 125 (by decide +kernel) (by decide +kernel), gT_of 1202 (by decide +kernel) (by decide +kernel), by decide +kernel, by decide +kernel, by decide +kernel⟩
theorem iv_X7_swap : Cond.instanceMethod yX7_swap ∈ gT ∧ Cond.selects yX7_swap.cls yX7_swap yX7_swap ∈ gT := ⟨gT_of 1200 (by decide +kernel) (by decide +kernel), gT_of 1201 (by decide +kernel) (by decide +kernel)⟩
theorem yk_X7_broken : YOK yX7_broken cX7_broken 2 (some .int) 1 := ⟨gT_of 125 (by decide +kernel) (by decide +kernel), gT_of 1210 (by decide +kernel) (by decide +kernel), by decide +kernel, by decide +kernel, by decide +kernel⟩
theorem iv_X7_broken : Cond.instanceMethod yX7_broken ∈ gT ∧ Cond.selects yX7_broken.cls yX7_broken yX7_broken ∈ gT := ⟨gT_of 1208 (by decide +kernel) (by decide +kernel), gT_of 1209 (by decide +kernel) (by decide +kernel)⟩
theorem yk_X7_feed : YOK yX7_feed cX7_feed 5 (some .int) 2 := ⟨gT_of 125 (by decide +kernel) (by decide +kernel), gT_of 1214 (by decide +kernel) (by decide +kernel), by decide +kernel, by decide +kernel, by decide +kernel⟩
theorem iv_X7_feed : Cond.instanceMethod yX7_feed ∈ gT ∧ Cond.selects yX7_feed.cls yX7_feed yX7_feed ∈ gT := ⟨gT_of 1212 (by decide +kernel) (by decide +kernel), gT_of 1213 (by decide +kernel) (by decide +kernel)⟩
theorem yk_X7_sign : YOK yX7_sign cX7_sign 1 (some .int) 0 := ⟨gT_of 125 (by decide +kernel) (by decide +kernel), gT_of 1223 (by decide +kernel) (by decide +kernel), by decide +kernel, by decide +kernel, by decide +kernel⟩
theorem iv_X7_sign : Cond.instanceMethod yX7_sign ∈ gT ∧ Cond.selects yX7_sign.cls yX7_sign yX7_sign ∈ gT := ⟨gT_of 1222 (by decide +kernel) (by decide +kernel), gT_of 86 (by decide +kernel) (by decide +kernel)⟩
theorem yk_X7_isSlot : YOK yX7_isSlot cX7_isSlot 1 (some .boolean) 1 := ⟨gT_of 125 (by decide +kernel) (by decide +kernel), gT_of 1230 (by decide +kernel) (by decide +kernel), by decide +kernel, by decide +kernel, by decide +kernel⟩
theorem st_X7_isSlot : Cond.static yX7_isSlot ∈ gT := gT_of 1229 (by decide +kernel) (by decide +kernel)
theorem yk_X7_isScene : YOK yX7_isScene cX7_isScene 1 (some .boolean) 1 := ⟨gT_of 125 (by decide +kernel) (by decide +kernel), gT_of 1233 (by decide +kernel) (by decide +kernel), by decide +kernel, by decide +kernel, by decide +kernel⟩
theorem st_X7_isScene : Cond.static yX7_isScene ∈ gT := gT_of 1232 (by decide +kernel) (by decide +kernel)
theorem yk_X7_isTold : YOK yX7_isTold cX7_isTold 2 (some .boolean) 1 := ⟨gT_of 125 (by decide +kernel) (by decide +kernel), gT_of 1237 (by decide +kernel) (by decide +kernel), by decide +kernel, by decide +kernel, by decide +kernel⟩
theorem iv_X7_isTold : Cond.instanceMethod yX7_isTold ∈ gT ∧ Cond.selects yX7_isTold.cls yX7_isTold yX7_isTold ∈ gT := ⟨gT_of 1236 (by decide +kernel) (by decide +kernel), gT_of 88 (by decide +kernel) (by decide +kernel)⟩
theorem yk_X7_parses : YOK yX7_parses cX7_parses 5 (some .boolean) 1 := ⟨gT_of 125 (by decide +kernel) (by decide +kernel), gT_of 1227 (by decide +kernel) (by decide +kernel), by decide +kernel, by decide +kernel, by decide +kernel⟩
theorem iv_X7_parses : Cond.instanceMethod yX7_parses ∈ gT ∧ Cond.selects yX7_parses.cls yX7_parses yX7_parses ∈ gT := ⟨gT_of 1226 (by decide +kernel) (by decide +kernel), gT_of 87 (by decide +kernel) (by decide +kernel)⟩
theorem yk_X7_standsInOther : YOK yX7_standsInOther cX7_standsInOther 5 (some .boolean) 1 := ⟨gT_of 125 (by decide +kernel) (by decide +kernel), gT_of 1241 (by decide +kernel) (by decide +kernel), by decide +kernel, by decide +kernel, by decide +kernel⟩
theorem iv_X7_standsInOther : Cond.instanceMethod yX7_standsInOther ∈ gT ∧ Cond.selects yX7_standsInOther.cls yX7_standsInOther yX7_standsInOther ∈ gT := ⟨gT_of 1240 (by decide +kernel) (by decide +kernel), gT_of 89 (by decide +kernel) (by decide +kernel)⟩
theorem yk_X7_scene : YOK yX7_scene cX7_scene 5 (some .int) 0 := ⟨gT_of 125 (by decide +kernel) (by decide +kernel), gT_of 1219 (by decide +kernel) (by decide +kernel), by decide +kernel, by decide +kernel, by decide +kernel⟩
theorem iv_X7_scene : Cond.instanceMethod yX7_scene ∈ gT ∧ Cond.selects yX7_scene.cls yX7_scene yX7_scene ∈ gT := ⟨gT_of 1217 (by decide +kernel) (by decide +kernel), gT_of 1218 (by decide +kernel) (by decide +kernel)⟩
theorem yk_X7_hall : YOK yX7_hall cX7_hall 3 (some .int) 1 := ⟨gT_of 125 (by decide +kernel) (by decide +kernel), gT_of 1245 (by decide +kernel) (by decide +kernel), by decide +kernel, by decide +kernel, by decide +kernel⟩
theorem iv_X7_hall : Cond.instanceMethod yX7_hall ∈ gT ∧ Cond.selects yX7_hall.cls yX7_hall yX7_hall ∈ gT := ⟨gT_of 1243 (by decide +kernel) (by decide +kernel), gT_of 1244 (by decide +kernel) (by decide +kernel)⟩
theorem yk_X7_behind : YOK yX7_behind cX7_behind 6 (some .int) 2 := ⟨gT_of 125 (by decide +kernel) (by decide +kernel), gT_of 1281 (by decide +kernel) (by decide +kernel), by decide +kernel, by decide +kernel, by decide +kernel⟩
theorem iv_X7_behind : Cond.instanceMethod yX7_behind ∈ gT ∧ Cond.selects yX7_behind.cls yX7_behind yX7_behind ∈ gT := ⟨gT_of 1280 (by decide +kernel) (by decide +kernel), gT_of 96 (by decide +kernel) (by decide +kernel)⟩
theorem yk_X7_endFrom : YOK yX7_endFrom cX7_endFrom 6 (some .int) 2 := ⟨gT_of 125 (by decide +kernel) (by decide +kernel), gT_of 1273 (by decide +kernel) (by decide +kernel), by decide +kernel, by decide +kernel, by decide +kernel⟩
theorem iv_X7_endFrom : Cond.instanceMethod yX7_endFrom ∈ gT ∧ Cond.selects yX7_endFrom.cls yX7_endFrom yX7_endFrom ∈ gT := ⟨gT_of 1272 (by decide +kernel) (by decide +kernel), gT_of 94 (by decide +kernel) (by decide +kernel)⟩
theorem yk_X7_chooses : YOK yX7_chooses cX7_chooses 3 (some .int) 1 := ⟨gT_of 125 (by decide +kernel) (by decide +kernel), gT_of 1277 (by decide +kernel) (by decide +kernel), by decide +kernel, by decide +kernel, by decide +kernel⟩
theorem iv_X7_chooses : Cond.instanceMethod yX7_chooses ∈ gT ∧ Cond.selects yX7_chooses.cls yX7_chooses yX7_chooses ∈ gT := ⟨gT_of 1276 (by decide +kernel) (by decide +kernel), gT_of 95 (by decide +kernel) (by decide +kernel)⟩
theorem yk_X7_linesOf : YOK yX7_linesOf cX7_linesOf 4 (some .int) 1 := ⟨gT_of 125 (by decide +kernel) (by decide +kernel), gT_of 1285 (by decide +kernel) (by decide +kernel), by decide +kernel, by decide +kernel, by decide +kernel⟩
theorem iv_X7_linesOf : Cond.instanceMethod yX7_linesOf ∈ gT ∧ Cond.selects yX7_linesOf.cls yX7_linesOf yX7_linesOf ∈ gT := ⟨gT_of 1284 (by decide +kernel) (by decide +kernel), gT_of 97 (by decide +kernel) (by decide +kernel)⟩
theorem yk_X7_lineOf : YOK yX7_lineOf cX7_lineOf 5 (some .int) 2 := ⟨gT_of 125 (by decide +kernel) (by decide +kernel), gT_of 1289 (by decide +kernel) (by decide +kernel), by decide +kernel, by decide +kernel, by decide +kernel⟩
theorem iv_X7_lineOf : Cond.instanceMethod yX7_lineOf ∈ gT ∧ Cond.selects yX7_lineOf.cls yX7_lineOf yX7_lineOf ∈ gT := ⟨gT_of 1288 (by decide +kernel) (by decide +kernel), gT_of 98 (by decide +kernel) (by decide +kernel)⟩
theorem yk_X7_sings : YOK yX7_sings cX7_sings 9 (some .boolean) 1 := ⟨gT_of 125 (by decide +kernel) (by decide +kernel), gT_of 1269 (by decide +kernel) (by decide +kernel), by decide +kernel, by decide +kernel, by decide +kernel⟩
theorem iv_X7_sings : Cond.instanceMethod yX7_sings ∈ gT ∧ Cond.selects yX7_sings.cls yX7_sings yX7_sings ∈ gT := ⟨gT_of 1268 (by decide +kernel) (by decide +kernel), gT_of 93 (by decide +kernel) (by decide +kernel)⟩
theorem yk_X7_sing : YOK yX7_sing cX7_sing 7 (some .int) 4 := ⟨gT_of 125 (by decide +kernel) (by decide +kernel), gT_of 1250 (by decide +kernel) (by decide +kernel), by decide +kernel, by decide +kernel, by decide +kernel⟩
theorem iv_X7_sing : Cond.instanceMethod yX7_sing ∈ gT ∧ Cond.selects yX7_sing.cls yX7_sing yX7_sing ∈ gT := ⟨gT_of 1248 (by decide +kernel) (by decide +kernel), gT_of 1249 (by decide +kernel) (by decide +kernel)⟩
theorem yk_X7_sung : YOK yX7_sung cX7_sung 2 (some .int) 1 := ⟨gT_of 125 (by decide +kernel) (by decide +kernel), gT_of 1293 (by decide +kernel) (by decide +kernel), by decide +kernel, by decide +kernel, by decide +kernel⟩
theorem iv_X7_sung : Cond.instanceMethod yX7_sung ∈ gT ∧ Cond.selects yX7_sung.cls yX7_sung yX7_sung ∈ gT := ⟨gT_of 1291 (by decide +kernel) (by decide +kernel), gT_of 1292 (by decide +kernel) (by decide +kernel)⟩
theorem yk_X7_least : YOK yX7_least cX7_least 2 (some .int) 1 := ⟨gT_of 125 (by decide +kernel) (by decide +kernel), gT_of 1397 (by decide +kernel) (by decide +kernel), by decide +kernel, by decide +kernel, by decide +kernel⟩
theorem st_X7_least : Cond.static yX7_least ∈ gT := gT_of 1396 (by decide +kernel) (by decide +kernel)
theorem yk_X7_times : YOK yX7_times cX7_times 8 none 2 := ⟨gT_of 125 (by decide +kernel) (by decide +kernel), gT_of 1403 (by decide +kernel) (by decide +kernel), by decide +kernel, by decide +kernel, by decide +kernel⟩
theorem iv_X7_times : Cond.instanceMethod yX7_times ∈ gT ∧ Cond.selects yX7_times.cls yX7_times yX7_times ∈ gT := ⟨gT_of 1402 (by decide +kernel) (by decide +kernel), gT_of 110 (by decide +kernel) (by decide +kernel)⟩
theorem yk_X7_begins : YOK yX7_begins cX7_begins 2 none 0 := ⟨gT_of 125 (by decide +kernel) (by decide +kernel), gT_of 1386 (by decide +kernel) (by decide +kernel), by decide +kernel, by decide +kernel, by decide +kernel⟩
theorem iv_X7_begins : Cond.instanceMethod yX7_begins ∈ gT ∧ Cond.selects yX7_begins.cls yX7_begins yX7_begins ∈ gT := ⟨gT_of 1385 (by decide +kernel) (by decide +kernel), gT_of 107 (by decide +kernel) (by decide +kernel)⟩
theorem yk_X7_takesSlot : YOK yX7_takesSlot cX7_takesSlot 4 none 1 := ⟨gT_of 125 (by decide +kernel) (by decide +kernel), gT_of 1390 (by decide +kernel) (by decide +kernel), by decide +kernel, by decide +kernel, by decide +kernel⟩
theorem iv_X7_takesSlot : Cond.instanceMethod yX7_takesSlot ∈ gT ∧ Cond.selects yX7_takesSlot.cls yX7_takesSlot yX7_takesSlot ∈ gT := ⟨gT_of 1389 (by decide +kernel) (by decide +kernel), gT_of 108 (by decide +kernel) (by decide +kernel)⟩
theorem yk_X7_waysAt : YOK yX7_waysAt cX7_waysAt 4 (some .int) 2 := ⟨gT_of 125 (by decide +kernel) (by decide +kernel), gT_of 1394 (by decide +kernel) (by decide +kernel), by decide +kernel, by decide +kernel, by decide +kernel⟩
theorem iv_X7_waysAt : Cond.instanceMethod yX7_waysAt ∈ gT ∧ Cond.selects yX7_waysAt.cls yX7_waysAt yX7_waysAt ∈ gT := ⟨gT_of 1393 (by decide +kernel) (by decide +kernel), gT_of 109 (by decide +kernel) (by decide +kernel)⟩
theorem yk_X7_closes : YOK yX7_closes cX7_closes 5 none 2 := ⟨gT_of 125 (by decide +kernel) (by decide +kernel), gT_of 1407 (by decide +kernel) (by decide +kernel), by decide +kernel, by decide +kernel, by decide +kernel⟩
theorem iv_X7_closes : Cond.instanceMethod yX7_closes ∈ gT ∧ Cond.selects yX7_closes.cls yX7_closes yX7_closes ∈ gT := ⟨gT_of 1406 (by decide +kernel) (by decide +kernel), gT_of 111 (by decide +kernel) (by decide +kernel)⟩
theorem yk_X7_goesBehind : YOK yX7_goesBehind cX7_goesBehind 3 none 1 := ⟨gT_of 125 (by decide +kernel) (by decide +kernel), gT_of 1411 (by decide +kernel) (by decide +kernel), by decide +kernel, by decide +kernel, by decide +kernel⟩
theorem iv_X7_goesBehind : Cond.instanceMethod yX7_goesBehind ∈ gT ∧ Cond.selects yX7_goesBehind.cls yX7_goesBehind yX7_goesBehind ∈ gT := ⟨gT_of 1410 (by decide +kernel) (by decide +kernel), gT_of 112 (by decide +kernel) (by decide +kernel)⟩
theorem yk_X7_findTable : YOK yX7_findTable cX7_findTable 6 none 1 := ⟨gT_of 125 (by decide +kernel) (by decide +kernel), gT_of 1382 (by decide +kernel) (by decide +kernel), by decide +kernel, by decide +kernel, by decide +kernel⟩
theorem iv_X7_findTable : Cond.instanceMethod yX7_findTable ∈ gT ∧ Cond.selects yX7_findTable.cls yX7_findTable yX7_findTable ∈ gT := ⟨gT_of 1381 (by decide +kernel) (by decide +kernel), gT_of 106 (by decide +kernel) (by decide +kernel)⟩
theorem yk_X7_runsOf : YOK yX7_runsOf cX7_runsOf 4 (some .int) 1 := ⟨gT_of 125 (by decide +kernel) (by decide +kernel), gT_of 1378 (by decide +kernel) (by decide +kernel), by decide +kernel, by decide +kernel, by decide +kernel⟩
theorem iv_X7_runsOf : Cond.instanceMethod yX7_runsOf ∈ gT ∧ Cond.selects yX7_runsOf.cls yX7_runsOf yX7_runsOf ∈ gT := ⟨gT_of 1377 (by decide +kernel) (by decide +kernel), gT_of 105 (by decide +kernel) (by decide +kernel)⟩
theorem yk_X7_isSinger : YOK yX7_isSinger cX7_isSinger 2 (some .boolean) 1 := ⟨gT_of 125 (by decide +kernel) (by decide +kernel), gT_of 1254 (by decide +kernel) (by decide +kernel), by decide +kernel, by decide +kernel, by decide +kernel⟩
theorem iv_X7_isSinger : Cond.instanceMethod yX7_isSinger ∈ gT ∧ Cond.selects yX7_isSinger.cls yX7_isSinger yX7_isSinger ∈ gT := ⟨gT_of 1253 (by decide +kernel) (by decide +kernel), gT_of 90 (by decide +kernel) (by decide +kernel)⟩
theorem yk_X7_isYear : YOK yX7_isYear cX7_isYear 1 (some .boolean) 1 := ⟨gT_of 125 (by decide +kernel) (by decide +kernel), gT_of 1257 (by decide +kernel) (by decide +kernel), by decide +kernel, by decide +kernel, by decide +kernel⟩
theorem st_X7_isYear : Cond.static yX7_isYear ∈ gT := gT_of 1256 (by decide +kernel) (by decide +kernel)
theorem yk_X7_isKnown : YOK yX7_isKnown cX7_isKnown 2 (some .boolean) 1 := ⟨gT_of 125 (by decide +kernel) (by decide +kernel), gT_of 1322 (by decide +kernel) (by decide +kernel), by decide +kernel, by decide +kernel, by decide +kernel⟩
theorem iv_X7_isKnown : Cond.instanceMethod yX7_isKnown ∈ gT ∧ Cond.selects yX7_isKnown.cls yX7_isKnown yX7_isKnown ∈ gT := ⟨gT_of 1321 (by decide +kernel) (by decide +kernel), gT_of 100 (by decide +kernel) (by decide +kernel)⟩
theorem yk_X7_upTo : YOK yX7_upTo cX7_upTo 2 (some .int) 1 := ⟨gT_of 125 (by decide +kernel) (by decide +kernel), gT_of 1326 (by decide +kernel) (by decide +kernel), by decide +kernel, by decide +kernel, by decide +kernel⟩
theorem iv_X7_upTo : Cond.instanceMethod yX7_upTo ∈ gT ∧ Cond.selects yX7_upTo.cls yX7_upTo yX7_upTo ∈ gT := ⟨gT_of 1325 (by decide +kernel) (by decide +kernel), gT_of 101 (by decide +kernel) (by decide +kernel)⟩
theorem yk_X7_singer : YOK yX7_singer cX7_singer 2 (some .int) 1 := ⟨gT_of 125 (by decide +kernel) (by decide +kernel), gT_of 1297 (by decide +kernel) (by decide +kernel), by decide +kernel, by decide +kernel, by decide +kernel⟩
theorem iv_X7_singer : Cond.instanceMethod yX7_singer ∈ gT ∧ Cond.selects yX7_singer.cls yX7_singer yX7_singer ∈ gT := ⟨gT_of 1295 (by decide +kernel) (by decide +kernel), gT_of 1296 (by decide +kernel) (by decide +kernel)⟩
theorem yk_X7_village : YOK yX7_village cX7_village 4 (some .int) 2 := ⟨gT_of 125 (by decide +kernel) (by decide +kernel), gT_of 1301 (by decide +kernel) (by decide +kernel), by decide +kernel, by decide +kernel, by decide +kernel⟩
theorem iv_X7_village : Cond.instanceMethod yX7_village ∈ gT ∧ Cond.selects yX7_village.cls yX7_village yX7_village ∈ gT := ⟨gT_of 1299 (by decide +kernel) (by decide +kernel), gT_of 1300 (by decide +kernel) (by decide +kernel)⟩
theorem yk_X7_enters : YOK yX7_enters cX7_enters 5 (some .int) 4 := ⟨gT_of 125 (by decide +kernel) (by decide +kernel), gT_of 1310 (by decide +kernel) (by decide +kernel), by decide +kernel, by decide +kernel, by decide +kernel⟩
theorem iv_X7_enters : Cond.instanceMethod yX7_enters ∈ gT ∧ Cond.selects yX7_enters.cls yX7_enters yX7_enters ∈ gT := ⟨gT_of 1309 (by decide +kernel) (by decide +kernel), gT_of 99 (by decide +kernel) (by decide +kernel)⟩
theorem yk_X7_learn : YOK yX7_learn cX7_learn 5 (some .int) 4 := ⟨gT_of 125 (by decide +kernel) (by decide +kernel), gT_of 1306 (by decide +kernel) (by decide +kernel), by decide +kernel, by decide +kernel, by decide +kernel⟩
theorem iv_X7_learn : Cond.instanceMethod yX7_learn ∈ gT ∧ Cond.selects yX7_learn.cls yX7_learn yX7_learn ∈ gT := ⟨gT_of 1304 (by decide +kernel) (by decide +kernel), gT_of 1305 (by decide +kernel) (by decide +kernel)⟩
theorem yk_X7_forget : YOK yX7_forget cX7_forget 4 (some .int) 3 := ⟨gT_of 125 (by decide +kernel) (by decide +kernel), gT_of 1314 (by decide +kernel) (by decide +kernel), by decide +kernel, by decide +kernel, by decide +kernel⟩
theorem iv_X7_forget : Cond.instanceMethod yX7_forget ∈ gT ∧ Cond.selects yX7_forget.cls yX7_forget yX7_forget ∈ gT := ⟨gT_of 1312 (by decide +kernel) (by decide +kernel), gT_of 1313 (by decide +kernel) (by decide +kernel)⟩
theorem yk_X7_hasLine : YOK yX7_hasLine cX7_hasLine 7 (some .boolean) 4 := ⟨gT_of 125 (by decide +kernel) (by decide +kernel), gT_of 1265 (by decide +kernel) (by decide +kernel), by decide +kernel, by decide +kernel, by decide +kernel⟩
theorem iv_X7_hasLine : Cond.instanceMethod yX7_hasLine ∈ gT ∧ Cond.selects yX7_hasLine.cls yX7_hasLine yX7_hasLine ∈ gT := ⟨gT_of 1264 (by decide +kernel) (by decide +kernel), gT_of 92 (by decide +kernel) (by decide +kernel)⟩
theorem yk_X7_findStock : YOK yX7_findStock cX7_findStock 5 none 3 := ⟨gT_of 125 (by decide +kernel) (by decide +kernel), gT_of 1261 (by decide +kernel) (by decide +kernel), by decide +kernel, by decide +kernel, by decide +kernel⟩
theorem iv_X7_findStock : Cond.instanceMethod yX7_findStock ∈ gT ∧ Cond.selects yX7_findStock.cls yX7_findStock yX7_findStock ∈ gT := ⟨gT_of 1260 (by decide +kernel) (by decide +kernel), gT_of 91 (by decide +kernel) (by decide +kernel)⟩
theorem yk_X7_has : YOK yX7_has cX7_has 5 (some .int) 4 := ⟨gT_of 125 (by decide +kernel) (by decide +kernel), gT_of 1318 (by decide +kernel) (by decide +kernel), by decide +kernel, by decide +kernel, by decide +kernel⟩
theorem iv_X7_has : Cond.instanceMethod yX7_has ∈ gT ∧ Cond.selects yX7_has.cls yX7_has yX7_has ∈ gT := ⟨gT_of 1316 (by decide +kernel) (by decide +kernel), gT_of 1317 (by decide +kernel) (by decide +kernel)⟩
theorem yk_X7_stock : YOK yX7_stock cX7_stock 6 (some .int) 3 := ⟨gT_of 125 (by decide +kernel) (by decide +kernel), gT_of 1330 (by decide +kernel) (by decide +kernel), by decide +kernel, by decide +kernel, by decide +kernel⟩
theorem iv_X7_stock : Cond.instanceMethod yX7_stock ∈ gT ∧ Cond.selects yX7_stock.cls yX7_stock yX7_stock ∈ gT := ⟨gT_of 1328 (by decide +kernel) (by decide +kernel), gT_of 1329 (by decide +kernel) (by decide +kernel)⟩
theorem yk_X7_unlikeBy : YOK yX7_unlikeBy cX7_unlikeBy 7 (some .int) 4 := ⟨gT_of 125 (by decide +kernel) (by decide +kernel), gT_of 1338 (by decide +kernel) (by decide +kernel), by decide +kernel, by decide +kernel, by decide +kernel⟩
theorem iv_X7_unlikeBy : Cond.instanceMethod yX7_unlikeBy ∈ gT ∧ Cond.selects yX7_unlikeBy.cls yX7_unlikeBy yX7_unlikeBy ∈ gT := ⟨gT_of 1337 (by decide +kernel) (by decide +kernel), gT_of 102 (by decide +kernel) (by decide +kernel)⟩
theorem yk_X7_unlike : YOK yX7_unlike cX7_unlike 5 (some .int) 4 := ⟨gT_of 125 (by decide +kernel) (by decide +kernel), gT_of 1334 (by decide +kernel) (by decide +kernel), by decide +kernel, by decide +kernel, by decide +kernel⟩
theorem iv_X7_unlike : Cond.instanceMethod yX7_unlike ∈ gT ∧ Cond.selects yX7_unlike.cls yX7_unlike yX7_unlike ∈ gT := ⟨gT_of 1332 (by decide +kernel) (by decide +kernel), gT_of 1333 (by decide +kernel) (by decide +kernel)⟩
theorem yk_X7_masterOf : YOK yX7_masterOf cX7_masterOf 8 (some .int) 3 := ⟨gT_of 125 (by decide +kernel) (by decide +kernel), gT_of 1346 (by decide +kernel) (by decide +kernel), by decide +kernel, by decide +kernel, by decide +kernel⟩
theorem iv_X7_masterOf : Cond.instanceMethod yX7_masterOf ∈ gT ∧ Cond.selects yX7_masterOf.cls yX7_masterOf yX7_masterOf ∈ gT := ⟨gT_of 1345 (by decide +kernel) (by decide +kernel), gT_of 103 (by decide +kernel) (by decide +kernel)⟩
theorem yk_X7_master : YOK yX7_master cX7_master 5 (some .int) 3 := ⟨gT_of 125 (by decide +kernel) (by decide +kernel), gT_of 1342 (by decide +kernel) (by decide +kernel), by decide +kernel, by decide +kernel, by decide +kernel⟩
theorem iv_X7_master : Cond.instanceMethod yX7_master ∈ gT ∧ Cond.selects yX7_master.cls yX7_master yX7_master ∈ gT := ⟨gT_of 1340 (by decide +kernel) (by decide +kernel), gT_of 1341 (by decide +kernel) (by decide +kernel)⟩
theorem yk_X7_lineage : YOK yX7_lineage cX7_lineage 6 (some .int) 2 := ⟨gT_of 125 (by decide +kernel) (by decide +kernel), gT_of 1350 (by decide +kernel) (by decide +kernel), by decide +kernel, by decide +kernel, by decide +kernel⟩
theorem iv_X7_lineage : Cond.instanceMethod yX7_lineage ∈ gT ∧ Cond.selects yX7_lineage.cls yX7_lineage yX7_lineage ∈ gT := ⟨gT_of 1348 (by decide +kernel) (by decide +kernel), gT_of 1349 (by decide +kernel) (by decide +kernel)⟩
theorem yk_X7_loan : YOK yX7_loan cX7_loan 12 (some .int) 4 := ⟨gT_of 125 (by decide +kernel) (by decide +kernel), gT_of 1354 (by decide +kernel) (by decide +kernel), by decide +kernel, by decide +kernel, by decide +kernel⟩
theorem iv_X7_loan : Cond.instanceMethod yX7_loan ∈ gT ∧ Cond.selects yX7_loan.cls yX7_loan yX7_loan ∈ gT := ⟨gT_of 1352 (by decide +kernel) (by decide +kernel), gT_of 1353 (by decide +kernel) (by decide +kernel)⟩
theorem yk_X7_core : YOK yX7_core cX7_core 8 (some .int) 3 := ⟨gT_of 125 (by decide +kernel) (by decide +kernel), gT_of 1358 (by decide +kernel) (by decide +kernel), by decide +kernel, by decide +kernel, by decide +kernel⟩
theorem iv_X7_core : Cond.instanceMethod yX7_core ∈ gT ∧ Cond.selects yX7_core.cls yX7_core yX7_core ∈ gT := ⟨gT_of 1356 (by decide +kernel) (by decide +kernel), gT_of 1357 (by decide +kernel) (by decide +kernel)⟩
theorem yk_X7_whose : YOK yX7_whose cX7_whose 9 (some .int) 3 := ⟨gT_of 125 (by decide +kernel) (by decide +kernel), gT_of 1362 (by decide +kernel) (by decide +kernel), by decide +kernel, by decide +kernel, by decide +kernel⟩
theorem iv_X7_whose : Cond.instanceMethod yX7_whose ∈ gT ∧ Cond.selects yX7_whose.cls yX7_whose yX7_whose ∈ gT := ⟨gT_of 1360 (by decide +kernel) (by decide +kernel), gT_of 1361 (by decide +kernel) (by decide +kernel)⟩
theorem yk_X7_put : YOK yX7_put cX7_put 3 (some .int) 2 := ⟨gT_of 125 (by decide +kernel) (by decide +kernel), gT_of 1366 (by decide +kernel) (by decide +kernel), by decide +kernel, by decide +kernel, by decide +kernel⟩
theorem iv_X7_put : Cond.instanceMethod yX7_put ∈ gT ∧ Cond.selects yX7_put.cls yX7_put yX7_put ∈ gT := ⟨gT_of 1364 (by decide +kernel) (by decide +kernel), gT_of 1365 (by decide +kernel) (by decide +kernel)⟩
theorem yk_X7_sees : YOK yX7_sees cX7_sees 5 none 3 := ⟨gT_of 125 (by decide +kernel) (by decide +kernel), gT_of 1374 (by decide +kernel) (by decide +kernel), by decide +kernel, by decide +kernel, by decide +kernel⟩
theorem iv_X7_sees : Cond.instanceMethod yX7_sees ∈ gT ∧ Cond.selects yX7_sees.cls yX7_sees yX7_sees ∈ gT := ⟨gT_of 1373 (by decide +kernel) (by decide +kernel), gT_of 104 (by decide +kernel) (by decide +kernel)⟩
theorem yk_X7_runs : YOK yX7_runs cX7_runs 5 (some .int) 4 := ⟨gT_of 125 (by decide +kernel) (by decide +kernel), gT_of 1370 (by decide +kernel) (by decide +kernel), by decide +kernel, by decide +kernel, by decide +kernel⟩
theorem iv_X7_runs : Cond.instanceMethod yX7_runs ∈ gT ∧ Cond.selects yX7_runs.cls yX7_runs yX7_runs ∈ gT := ⟨gT_of 1368 (by decide +kernel) (by decide +kernel), gT_of 1369 (by decide +kernel) (by decide +kernel)⟩
theorem yk_X7_isForged : YOK yX7_isForged cX7_isForged 7 (some .boolean) 4 := ⟨gT_of 125 (by decide +kernel) (by decide +kernel), gT_of 1419 (by decide +kernel) (by decide +kernel), by decide +kernel, by decide +kernel, by decide +kernel⟩
theorem iv_X7_isForged : Cond.instanceMethod yX7_isForged ∈ gT ∧ Cond.selects yX7_isForged.cls yX7_isForged yX7_isForged ∈ gT := ⟨gT_of 1418 (by decide +kernel) (by decide +kernel), gT_of 113 (by decide +kernel) (by decide +kernel)⟩
theorem yk_X7_forged : YOK yX7_forged cX7_forged 5 (some .int) 3 := ⟨gT_of 125 (by decide +kernel) (by decide +kernel), gT_of 1415 (by decide +kernel) (by decide +kernel), by decide +kernel, by decide +kernel, by decide +kernel⟩
theorem iv_X7_forged : Cond.instanceMethod yX7_forged ∈ gT ∧ Cond.selects yX7_forged.cls yX7_forged yX7_forged ∈ gT := ⟨gT_of 1413 (by decide +kernel) (by decide +kernel), gT_of 1414 (by decide +kernel) (by decide +kernel)⟩
theorem yk_X7_record : YOK yX7_record cX7_record 5 (some .int) 3 := ⟨gT_of 125 (by decide +kernel) (by decide +kernel), gT_of 1423 (by decide +kernel) (by decide +kernel), by decide +kernel, by decide +kernel, by decide +kernel⟩
theorem iv_X7_record : Cond.instanceMethod yX7_record ∈ gT ∧ Cond.selects yX7_record.cls yX7_record yX7_record ∈ gT := ⟨gT_of 1421 (by decide +kernel) (by decide +kernel), gT_of 1422 (by decide +kernel) (by decide +kernel)⟩
theorem yk_X7_isRecording : YOK yX7_isRecording cX7_isRecording 2 (some .boolean) 1 := ⟨gT_of 125 (by decide +kernel) (by decide +kernel), gT_of 1431 (by decide +kernel) (by decide +kernel), by decide +kernel, by decide +kernel, by decide +kernel⟩
theorem iv_X7_isRecording : Cond.instanceMethod yX7_isRecording ∈ gT ∧ Cond.selects yX7_isRecording.cls yX7_isRecording yX7_isRecording ∈ gT := ⟨gT_of 1430 (by decide +kernel) (by decide +kernel), gT_of 114 (by decide +kernel) (by decide +kernel)⟩
theorem yk_X7_plays : YOK yX7_plays cX7_plays 3 none 2 := ⟨gT_of 125 (by decide +kernel) (by decide +kernel), gT_of 1435 (by decide +kernel) (by decide +kernel), by decide +kernel, by decide +kernel, by decide +kernel⟩
theorem iv_X7_plays : Cond.instanceMethod yX7_plays ∈ gT ∧ Cond.selects yX7_plays.cls yX7_plays yX7_plays ∈ gT := ⟨gT_of 1434 (by decide +kernel) (by decide +kernel), gT_of 115 (by decide +kernel) (by decide +kernel)⟩
theorem yk_X7_heard : YOK yX7_heard cX7_heard 7 (some .int) 3 := ⟨gT_of 125 (by decide +kernel) (by decide +kernel), gT_of 1427 (by decide +kernel) (by decide +kernel), by decide +kernel, by decide +kernel, by decide +kernel⟩
theorem iv_X7_heard : Cond.instanceMethod yX7_heard ∈ gT ∧ Cond.selects yX7_heard.cls yX7_heard yX7_heard ∈ gT := ⟨gT_of 1425 (by decide +kernel) (by decide +kernel), gT_of 1426 (by decide +kernel) (by decide +kernel)⟩
theorem yk_X7_filled : YOK yX7_filled cX7_filled 6 (some .int) 3 := ⟨gT_of 125 (by decide +kernel) (by decide +kernel), gT_of 1439 (by decide +kernel) (by decide +kernel), by decide +kernel, by decide +kernel, by decide +kernel⟩
theorem iv_X7_filled : Cond.instanceMethod yX7_filled ∈ gT ∧ Cond.selects yX7_filled.cls yX7_filled yX7_filled ∈ gT := ⟨gT_of 1437 (by decide +kernel) (by decide +kernel), gT_of 1438 (by decide +kernel) (by decide +kernel)⟩
theorem yk_X7_count : YOK yX7_count cX7_count 4 (some .int) 1 := ⟨gT_of 125 (by decide +kernel) (by decide +kernel), gT_of 1443 (by decide +kernel) (by decide +kernel), by decide +kernel, by decide +kernel, by decide +kernel⟩
theorem iv_X7_count : Cond.instanceMethod yX7_count ∈ gT ∧ Cond.selects yX7_count.cls yX7_count yX7_count ∈ gT := ⟨gT_of 1441 (by decide +kernel) (by decide +kernel), gT_of 1442 (by decide +kernel) (by decide +kernel)⟩
theorem yk_J13_bitCount_95d88 : YOK yJ13_bitCount_95d88 cJ13_bitCount_95d88 2 (some .int) 1 := ⟨gT_of 127 (by decide +kernel) (by decide +kernel), gT_of 684 (by decide +kernel) (by decide +kernel), by decide +kernel, by decide +kernel, by decide +kernel⟩
theorem st_J13_bitCount_95d88 : Cond.static yJ13_bitCount_95d88 ∈ gT := gT_of 683 (by decide +kernel) (by decide +kernel)
theorem yk_J9_min_7cf53 : YOK yJ9_min_7cf53 cJ9_min_7cf53 2 (some .int) 2 := ⟨gT_of 128 (by decide +kernel) (by decide +kernel), gT_of 845 (by decide +kernel) (by decide +kernel), by decide +kernel, by decide +kernel, by decide +kernel⟩
theorem st_J9_min_7cf53 : Cond.static yJ9_min_7cf53 ∈ gT := gT_of 844 (by decide +kernel) (by decide +kernel)
theorem yk_J9_min_f86c9 : YOK yJ9_min_f86c9 cJ9_min_f86c9 4 (some .long) 2 := ⟨gT_of 128 (by decide +kernel) (by decide +kernel), gT_of 859 (by decide +kernel) (by decide +kernel), by decide +kernel, by decide +kernel, by decide +kernel⟩
theorem st_J9_min_f86c9 : Cond.static yJ9_min_f86c9 ∈ gT := gT_of 858 (by decide +kernel) (by decide +kernel)
theorem yk_J7_fill_53178 : YOK yJ7_fill_53178 cJ7_fill_53178 4 none 2 := ⟨gT_of 119 (by decide +kernel) (by decide +kernel), gT_of 145 (by decide +kernel) (by decide +kernel), by decide +kernel, by decide +kernel, by decide +kernel⟩
theorem st_J7_fill_53178 : Cond.static yJ7_fill_53178 ∈ gT := gT_of 144 (by decide +kernel) (by decide +kernel)
theorem m_X0_48 : MS RX0 48 yJ7_fill_53178 cJ7_fill_53178 4 none 2 := ⟨Or.inl (gT_of 637 (by decide +kernel) (by decide +kernel)), st_J7_fill_53178, yk_J7_fill_53178⟩
theorem m_X0_56 : MV RX0 56 23 yX0_stockOf cX0_stockOf 9 (some .long) 3 := ⟨⟨0, _, _, _, rfl, rfl⟩, Or.inl (gT_of 749 (by decide +kernel) (by decide +kernel)), iv_X0_stockOf.1, iv_X0_stockOf.2, yk_X0_stockOf⟩
theorem m_X0_60 : MS RX0 60 yJ13_bitCount_95d88 cJ13_bitCount_95d88 2 (some .int) 1 := ⟨Or.inl (gT_of 754 (by decide +kernel) (by decide +kernel)), st_J13_bitCount_95d88, yk_J13_bitCount_95d88⟩
theorem m_X0_66 : MV RX0 66 23 yX0_isNearer cX0_isNearer 5 (some .boolean) 3 := ⟨⟨0, _, _, _, rfl, rfl⟩, Or.inl (gT_of 763 (by decide +kernel) (by decide +kernel)), iv_X0_isNearer.1, iv_X0_isNearer.2, yk_X0_isNearer⟩
theorem m_X0_70 : MV RX0 70 23 yX0_changes cX0_changes 3 (some .int) 2 := ⟨⟨0, _, _, _, rfl, rfl⟩, Or.inl (gT_of 767 (by decide +kernel) (by decide +kernel)), iv_X0_changes.1, iv_X0_changes.2, yk_X0_changes⟩
theorem m_X0_74 : MV RX0 74 23 yX0_masterOf cX0_masterOf 4 (some .int) 1 := ⟨⟨0, _, _, _, rfl, rfl⟩, Or.inl (gT_of 780 (by decide +kernel) (by decide +kernel)), iv_X0_masterOf.1, iv_X0_masterOf.2, yk_X0_masterOf⟩
theorem m_X0_78 : MV RX0 78 23 yX0_masterStock cX0_masterStock 3 (some .long) 1 := ⟨⟨0, _, _, _, rfl, rfl⟩, Or.inl (gT_of 893 (by decide +kernel) (by decide +kernel)), iv_X0_masterStock.1, iv_X0_masterStock.2, yk_X0_masterStock⟩
theorem m_X0_82 : MS RX0 82 yX6_bit cX6_bit 3 (some .int) 2 := ⟨Or.inr ⟨"LongSong", List.mem_of_getElem? (i := 799) (by decide +kernel)⟩, st_X6_bit, yk_X6_bit⟩
theorem m_X1_43 : MS RX1 43 yJ13_bitCount_95d88 cJ13_bitCount_95d88 2 (some .int) 1 := ⟨Or.inl (gT_of 812 (by decide +kernel) (by decide +kernel)), st_J13_bitCount_95d88, yk_J13_bitCount_95d88⟩
theorem m_X1_49 : MS RX1 49 yX6_bit cX6_bit 3 (some .int) 2 := ⟨Or.inr ⟨"LongSong", List.mem_of_getElem? (i := 813) (by decide +kernel)⟩, st_X6_bit, yk_X6_bit⟩
theorem m_X1_53 : MV RX1 53 14 yX2_within cX2_within 4 (some .int) 1 := ⟨⟨2, _, _, _, rfl, rfl⟩, Or.inr ⟨"LongSong", List.mem_of_getElem? (i := 818) (by decide +kernel)⟩, iv_X2_within.1, iv_X2_within.2, yk_X2_within⟩
theorem m_X1_65 : MV RX1 65 37 yX1_fillTable cX1_fillTable 3 none 1 := ⟨⟨1, _, _, _, rfl, rfl⟩, Or.inl (gT_of 822 (by decide +kernel) (by decide +kernel)), iv_X1_fillTable.1, iv_X1_fillTable.2, yk_X1_fillTable⟩
theorem m_X1_69 : MV RX1 69 37 yX1_cell cX1_cell 4 (some .int) 3 := ⟨⟨1, _, _, _, rfl, rfl⟩, Or.inl (gT_of 838 (by decide +kernel) (by decide +kernel)), iv_X1_cell.1, iv_X1_cell.2, yk_X1_cell⟩
theorem m_X1_73 : MV RX1 73 37 yX1_allowOnly cX1_allowOnly 4 none 2 := ⟨⟨1, _, _, _, rfl, rfl⟩, Or.inl (gT_of 941 (by decide +kernel) (by decide +kernel)), iv_X1_allowOnly.1, iv_X1_allowOnly.2, yk_X1_allowOnly⟩
theorem m_X1_77 : MV RX1 77 37 yX1_ways cX1_ways 4 (some .int) 1 := ⟨⟨1, _, _, _, rfl, rfl⟩, Or.inl (gT_of 945 (by decide +kernel) (by decide +kernel)), iv_X1_ways.1, iv_X1_ways.2, yk_X1_ways⟩
theorem m_X1_80 : MS RX1 80 yX6_pick cX6_pick 5 (some .int) 2 := ⟨Or.inr ⟨"LongSong", List.mem_of_getElem? (i := 946) (by decide +kernel)⟩, st_X6_pick, yk_X6_pick⟩
theorem m_X1_83 : MV RX1 83 37 yX1_clear cX1_clear 4 none 1 := ⟨⟨1, _, _, _, rfl, rfl⟩, Or.inl (gT_of 826 (by decide +kernel) (by decide +kernel)), iv_X1_clear.1, iv_X1_clear.2, yk_X1_clear⟩
theorem m_X1_86 : MV RX1 86 37 yX1_addOne cX1_addOne 4 none 1 := ⟨⟨1, _, _, _, rfl, rfl⟩, Or.inl (gT_of 834 (by decide +kernel) (by decide +kernel)), iv_X1_addOne.1, iv_X1_addOne.2, yk_X1_addOne⟩
theorem m_X1_92 : MV RX1 92 14 yX2_sign cX2_sign 3 (some .int) 2 := ⟨⟨2, _, _, _, rfl, rfl⟩, Or.inr ⟨"LongSong", List.mem_of_getElem? (i := 846) (by decide +kernel)⟩, iv_X2_sign.1, iv_X2_sign.2, yk_X2_sign⟩
theorem m_X1_96 : MV RX1 96 37 yX1_readSign cX1_readSign 2 none 1 := ⟨⟨1, _, _, _, rfl, rfl⟩, Or.inl (gT_of 847 (by decide +kernel) (by decide +kernel)), iv_X1_readSign.1, iv_X1_readSign.2, yk_X1_readSign⟩
theorem m_X1_99 : MV RX1 99 37 yX1_addTable cX1_addTable 6 none 2 := ⟨⟨1, _, _, _, rfl, rfl⟩, Or.inl (gT_of 877 (by decide +kernel) (by decide +kernel)), iv_X1_addTable.1, iv_X1_addTable.2, yk_X1_addTable⟩
theorem m_X1_102 : MS RX1 102 yX6_isSlot cX6_isSlot 1 (some .boolean) 1 := ⟨Or.inr ⟨"LongSong", List.mem_of_getElem? (i := 851) (by decide +kernel)⟩, st_X6_isSlot, yk_X6_isSlot⟩
theorem m_X1_106 : MV RX1 106 37 yX1_followBySlot cX1_followBySlot 6 none 1 := ⟨⟨1, _, _, _, rfl, rfl⟩, Or.inl (gT_of 852 (by decide +kernel) (by decide +kernel)), iv_X1_followBySlot.1, iv_X1_followBySlot.2, yk_X1_followBySlot⟩
theorem m_X1_109 : MS RX1 109 yX6_isScene cX6_isScene 1 (some .boolean) 1 := ⟨Or.inr ⟨"LongSong", List.mem_of_getElem? (i := 860) (by decide +kernel)⟩, st_X6_isScene, yk_X6_isScene⟩
theorem m_X1_112 : MV RX1 112 37 yX1_multiply cX1_multiply 12 none 2 := ⟨⟨1, _, _, _, rfl, rfl⟩, Or.inl (gT_of 861 (by decide +kernel) (by decide +kernel)), iv_X1_multiply.1, iv_X1_multiply.2, yk_X1_multiply⟩
theorem m_X1_115 : MV RX1 115 37 yX1_close cX1_close 2 none 0 := ⟨⟨1, _, _, _, rfl, rfl⟩, Or.inl (gT_of 865 (by decide +kernel) (by decide +kernel)), iv_X1_close.1, iv_X1_close.2, yk_X1_close⟩
theorem m_X1_118 : MV RX1 118 37 yX1_repeat cX1_repeat 3 none 0 := ⟨⟨1, _, _, _, rfl, rfl⟩, Or.inl (gT_of 873 (by decide +kernel) (by decide +kernel)), iv_X1_repeat.1, iv_X1_repeat.2, yk_X1_repeat⟩
theorem m_X1_121 : MV RX1 121 37 yX1_lower cX1_lower 1 none 0 := ⟨⟨1, _, _, _, rfl, rfl⟩, Or.inl (gT_of 869 (by decide +kernel) (by decide +kernel)), iv_X1_lower.1, iv_X1_lower.2, yk_X1_lower⟩
theorem m_X1_124 : MV RX1 124 37 yX1_raise cX1_raise 1 none 0 := ⟨⟨1, _, _, _, rfl, rfl⟩, Or.inl (gT_of 881 (by decide +kernel) (by decide +kernel)), iv_X1_raise.1, iv_X1_raise.2, yk_X1_raise⟩
theorem m_X1_130 : MV RX1 130 37 yX1_cellsInUse cX1_cellsInUse 1 (some .int) 0 := ⟨⟨1, _, _, _, rfl, rfl⟩, Or.inl (gT_of 830 (by decide +kernel) (by decide +kernel)), iv_X1_cellsInUse.1, iv_X1_cellsInUse.2, yk_X1_cellsInUse⟩
theorem m_X1_135 : MS RX1 135 yJ9_min_7cf53 cJ9_min_7cf53 2 (some .int) 2 := ⟨Or.inl (gT_of 843 (by decide +kernel) (by decide +kernel)), st_J9_min_7cf53, yk_J9_min_7cf53⟩
theorem m_X1_142 : MS RX1 142 yJ9_min_f86c9 cJ9_min_f86c9 4 (some .long) 2 := ⟨Or.inl (gT_of 857 (by decide +kernel) (by decide +kernel)), st_J9_min_f86c9, yk_J9_min_f86c9⟩
theorem m_X2_55 : MV RX2 55 14 yX2_readTape cX2_readTape 3 (some .int) 0 := ⟨⟨2, _, _, _, rfl, rfl⟩, Or.inl (gT_of 565 (by decide +kernel) (by decide +kernel)), iv_X2_readTape.1, iv_X2_readTape.2, yk_X2_readTape⟩
theorem m_X2_59 : MV RX2 59 14 yX2_misfit cX2_misfit 2 (some .int) 0 := ⟨⟨2, _, _, _, rfl, rfl⟩, Or.inl (gT_of 569 (by decide +kernel) (by decide +kernel)), iv_X2_misfit.1, iv_X2_misfit.2, yk_X2_misfit⟩
theorem m_X2_62 : MV RX2 62 14 yX2_untold cX2_untold 4 (some .int) 1 := ⟨⟨2, _, _, _, rfl, rfl⟩, Or.inl (gT_of 594 (by decide +kernel) (by decide +kernel)), iv_X2_untold.1, iv_X2_untold.2, yk_X2_untold⟩
theorem m_X2_66 : MV RX2 66 14 yX2_standsInAnother cX2_standsInAnother 3 (some .boolean) 1 := ⟨⟨2, _, _, _, rfl, rfl⟩, Or.inl (gT_of 602 (by decide +kernel) (by decide +kernel)), iv_X2_standsInAnother.1, iv_X2_standsInAnother.2, yk_X2_standsInAnother⟩
theorem m_X2_70 : MV RX2 70 14 yX2_keep cX2_keep 3 none 1 := ⟨⟨2, _, _, _, rfl, rfl⟩, Or.inl (gT_of 606 (by decide +kernel) (by decide +kernel)), iv_X2_keep.1, iv_X2_keep.2, yk_X2_keep⟩
theorem m_X2_74 : MV RX2 74 14 yX2_goesOn cX2_goesOn 3 (some .boolean) 1 := ⟨⟨2, _, _, _, rfl, rfl⟩, Or.inl (gT_of 573 (by decide +kernel) (by decide +kernel)), iv_X2_goesOn.1, iv_X2_goesOn.2, yk_X2_goesOn⟩
theorem m_X2_77 : MS RX2 77 yX6_isScene cX6_isScene 1 (some .boolean) 1 := ⟨Or.inr ⟨"LongSong", List.mem_of_getElem? (i := 577) (by decide +kernel)⟩, st_X6_isScene, yk_X6_isScene⟩
theorem m_X2_80 : MS RX2 80 yX6_isSlot cX6_isSlot 1 (some .boolean) 1 := ⟨Or.inr ⟨"LongSong", List.mem_of_getElem? (i := 580) (by decide +kernel)⟩, st_X6_isSlot, yk_X6_isSlot⟩
theorem m_X2_83 : MV RX2 83 14 yX2_opens cX2_opens 2 (some .boolean) 1 := ⟨⟨2, _, _, _, rfl, rfl⟩, Or.inl (gT_of 583 (by decide +kernel) (by decide +kernel)), iv_X2_opens.1, iv_X2_opens.2, yk_X2_opens⟩
theorem m_X2_86 : MV RX2 86 14 yX2_closes cX2_closes 3 (some .boolean) 2 := ⟨⟨2, _, _, _, rfl, rfl⟩, Or.inl (gT_of 587 (by decide +kernel) (by decide +kernel)), iv_X2_closes.1, iv_X2_closes.2, yk_X2_closes⟩
theorem m_X2_90 : MS RX2 90 yX2_closer cX2_closer 1 (some .int) 1 := ⟨Or.inl (gT_of 591 (by decide +kernel) (by decide +kernel)), st_X2_closer, yk_X2_closer⟩
theorem m_X2_93 : MV RX2 93 14 yX2_isTold cX2_isTold 2 (some .boolean) 1 := ⟨⟨2, _, _, _, rfl, rfl⟩, Or.inl (gT_of 598 (by decide +kernel) (by decide +kernel)), iv_X2_isTold.1, iv_X2_isTold.2, yk_X2_isTold⟩
theorem cp_X2_96 : Cond.methodLink RX2 96 arraycopyName ∈ gT := gT_of 610 (by decide +kernel) (by decide +kernel)
theorem m_X2_102 : MV RX2 102 14 yX2_putLast cX2_putLast 4 none 1 := ⟨⟨2, _, _, _, rfl, rfl⟩, Or.inl (gT_of 613 (by decide +kernel) (by decide +kernel)), iv_X2_putLast.1, iv_X2_putLast.2, yk_X2_putLast⟩
theorem cp_X3_31 : Cond.methodLink RX3 31 arraycopyName ∈ gT := gT_of 902 (by decide +kernel) (by decide +kernel)
theorem m_X3_37 : MV RX3 37 40 yX3_isLost cX3_isLost 3 (some .boolean) 2 := ⟨⟨3, _, _, _, rfl, rfl⟩, Or.inl (gT_of 928 (by decide +kernel) (by decide +kernel)), iv_X3_isLost.1, iv_X3_isLost.2, yk_X3_isLost⟩
theorem m_X3_41 : MS RX3 41 yX6_bit cX6_bit 3 (some .int) 2 := ⟨Or.inr ⟨"LongSong", List.mem_of_getElem? (i := 923) (by decide +kernel)⟩, st_X6_bit, yk_X6_bit⟩
theorem m_X4_55 : MV RX4 55 33 yX4_enterScene cX4_enterScene 2 none 1 := ⟨⟨4, _, _, _, rfl, rfl⟩, Or.inl (gT_of 643 (by decide +kernel) (by decide +kernel)), iv_X4_enterScene.1, iv_X4_enterScene.2, yk_X4_enterScene⟩
theorem m_X4_65 : MV RX4 65 33 yX4_keepSong cX4_keepSong 1 (some .boolean) 0 := ⟨⟨4, _, _, _, rfl, rfl⟩, Or.inl (gT_of 648 (by decide +kernel) (by decide +kernel)), iv_X4_keepSong.1, iv_X4_keepSong.2, yk_X4_keepSong⟩
theorem m_X4_69 : MV RX4 69 33 yX4_goBack cX4_goBack 1 none 0 := ⟨⟨4, _, _, _, rfl, rfl⟩, Or.inl (gT_of 653 (by decide +kernel) (by decide +kernel)), iv_X4_goBack.1, iv_X4_goBack.2, yk_X4_goBack⟩
theorem m_X4_72 : MV RX4 72 14 yX2_sign cX2_sign 3 (some .int) 2 := ⟨⟨2, _, _, _, rfl, rfl⟩, Or.inr ⟨"LongSong", List.mem_of_getElem? (i := 657) (by decide +kernel)⟩, iv_X2_sign.1, iv_X2_sign.2, yk_X2_sign⟩
theorem m_X4_76 : MV RX4 76 33 yX4_takeSign cX4_takeSign 2 (some .boolean) 1 := ⟨⟨4, _, _, _, rfl, rfl⟩, Or.inl (gT_of 661 (by decide +kernel) (by decide +kernel)), iv_X4_takeSign.1, iv_X4_takeSign.2, yk_X4_takeSign⟩
theorem cp_X4_80 : Cond.methodLink RX4 80 arraycopyName ∈ gT := gT_of 652 (by decide +kernel) (by decide +kernel)
theorem m_X4_86 : MV RX4 86 14 yX2_mateOf cX2_mateOf 3 (some .int) 2 := ⟨⟨2, _, _, _, rfl, rfl⟩, Or.inr ⟨"LongSong", List.mem_of_getElem? (i := 665) (by decide +kernel)⟩, iv_X2_mateOf.1, iv_X2_mateOf.2, yk_X2_mateOf⟩
theorem m_X4_89 : MV RX4 89 33 yX4_again cX4_again 1 (some .boolean) 0 := ⟨⟨4, _, _, _, rfl, rfl⟩, Or.inl (gT_of 669 (by decide +kernel) (by decide +kernel)), iv_X4_again.1, iv_X4_again.2, yk_X4_again⟩
theorem m_X4_92 : MV RX4 92 33 yX4_takeItem cX4_takeItem 5 (some .boolean) 1 := ⟨⟨4, _, _, _, rfl, rfl⟩, Or.inl (gT_of 673 (by decide +kernel) (by decide +kernel)), iv_X4_takeItem.1, iv_X4_takeItem.2, yk_X4_takeItem⟩
theorem m_X4_95 : MS RX4 95 yX6_isSlot cX6_isSlot 1 (some .boolean) 1 := ⟨Or.inr ⟨"LongSong", List.mem_of_getElem? (i := 677) (by decide +kernel)⟩, st_X6_isSlot, yk_X6_isSlot⟩
theorem m_X4_98 : MV RX4 98 33 yX4_singLine cX4_singLine 4 (some .boolean) 1 := ⟨⟨4, _, _, _, rfl, rfl⟩, Or.inl (gT_of 678 (by decide +kernel) (by decide +kernel)), iv_X4_singLine.1, iv_X4_singLine.2, yk_X4_singLine⟩
theorem m_X4_101 : MS RX4 101 yX6_isScene cX6_isScene 1 (some .boolean) 1 := ⟨Or.inr ⟨"LongSong", List.mem_of_getElem? (i := 695) (by decide +kernel)⟩, st_X6_isScene, yk_X6_isScene⟩
theorem m_X4_104 : MV RX4 104 33 yX4_await cX4_await 2 (some .boolean) 1 := ⟨⟨4, _, _, _, rfl, rfl⟩, Or.inl (gT_of 696 (by decide +kernel) (by decide +kernel)), iv_X4_await.1, iv_X4_await.2, yk_X4_await⟩
theorem m_X4_110 : MV RX4 110 33 yX4_choose cX4_choose 3 (some .int) 1 := ⟨⟨4, _, _, _, rfl, rfl⟩, Or.inl (gT_of 688 (by decide +kernel) (by decide +kernel)), iv_X4_choose.1, iv_X4_choose.2, yk_X4_choose⟩
theorem m_X4_120 : MS RX4 120 yJ13_bitCount_95d88 cJ13_bitCount_95d88 2 (some .int) 1 := ⟨Or.inl (gT_of 682 (by decide +kernel) (by decide +kernel)), st_J13_bitCount_95d88, yk_J13_bitCount_95d88⟩
theorem m_X4_126 : MS RX4 126 yX6_pick cX6_pick 5 (some .int) 2 := ⟨Or.inr ⟨"LongSong", List.mem_of_getElem? (i := 692) (by decide +kernel)⟩, st_X6_pick, yk_X6_pick⟩
theorem m_X5_69 : MV RX5 69 1 yX5_sungBeats cX5_sungBeats 3 (some .int) 2 := ⟨⟨5, _, _, _, rfl, rfl⟩, Or.inl (gT_of 496 (by decide +kernel) (by decide +kernel)), iv_X5_sungBeats.1, iv_X5_sungBeats.2, yk_X5_sungBeats⟩
theorem m_X5_73 : MV RX5 73 1 yX5_sungHeavy cX5_sungHeavy 7 (some .int) 2 := ⟨⟨5, _, _, _, rfl, rfl⟩, Or.inl (gT_of 500 (by decide +kernel) (by decide +kernel)), iv_X5_sungHeavy.1, iv_X5_sungHeavy.2, yk_X5_sungHeavy⟩
theorem m_X5_76 : MV RX5 76 1 yX5_fitsFirst cX5_fitsFirst 4 (some .boolean) 2 := ⟨⟨5, _, _, _, rfl, rfl⟩, Or.inl (gT_of 492 (by decide +kernel) (by decide +kernel)), iv_X5_fitsFirst.1, iv_X5_fitsFirst.2, yk_X5_fitsFirst⟩
theorem m_X5_80 : MV RX5 80 1 yX5_fitsSecond cX5_fitsSecond 4 (some .boolean) 2 := ⟨⟨5, _, _, _, rfl, rfl⟩, Or.inl (gT_of 504 (by decide +kernel) (by decide +kernel)), iv_X5_fitsSecond.1, iv_X5_fitsSecond.2, yk_X5_fitsSecond⟩
theorem m_X5_83 : MV RX5 83 1 yX5_scans cX5_scans 3 (some .boolean) 1 := ⟨⟨5, _, _, _, rfl, rfl⟩, Or.inl (gT_of 532 (by decide +kernel) (by decide +kernel)), iv_X5_scans.1, iv_X5_scans.2, yk_X5_scans⟩
theorem m_X5_87 : MV RX5 87 1 yX5_leastFirst cX5_leastFirst 3 (some .int) 1 := ⟨⟨5, _, _, _, rfl, rfl⟩, Or.inl (gT_of 524 (by decide +kernel) (by decide +kernel)), iv_X5_leastFirst.1, iv_X5_leastFirst.2, yk_X5_leastFirst⟩
theorem m_X5_91 : MV RX5 91 1 yX5_leastSecond cX5_leastSecond 3 (some .int) 1 := ⟨⟨5, _, _, _, rfl, rfl⟩, Or.inl (gT_of 528 (by decide +kernel) (by decide +kernel)), iv_X5_leastSecond.1, iv_X5_leastSecond.2, yk_X5_leastSecond⟩
theorem m_X5_94 : MV RX5 94 1 yX5_mend cX5_mend 5 (some .boolean) 3 := ⟨⟨5, _, _, _, rfl, rfl⟩, Or.inl (gT_of 533 (by decide +kernel) (by decide +kernel)), iv_X5_mend.1, iv_X5_mend.2, yk_X5_mend⟩
theorem m_X5_98 : MV RX5 98 1 yX5_noteBroken cX5_noteBroken 2 none 1 := ⟨⟨5, _, _, _, rfl, rfl⟩, Or.inl (gT_of 537 (by decide +kernel) (by decide +kernel)), iv_X5_noteBroken.1, iv_X5_noteBroken.2, yk_X5_noteBroken⟩
theorem m_X6_61 : MS RX6 61 yX6_inside cX6_inside 3 (some .boolean) 3 := ⟨Or.inl (gT_of 447 (by decide +kernel) (by decide +kernel)), st_X6_inside, yk_X6_inside⟩
theorem m_X6_65 : MS RX6 65 yX6_areBits cX6_areBits 2 (some .boolean) 2 := ⟨Or.inl (gT_of 450 (by decide +kernel) (by decide +kernel)), st_X6_areBits, yk_X6_areBits⟩
theorem m_X6_72 : MV RX6 72 1 yX5_addHalf cX5_addHalf 4 (some .int) 3 := ⟨⟨5, _, _, _, rfl, rfl⟩, Or.inr ⟨"LongSong", List.mem_of_getElem? (i := 453) (by decide +kernel)⟩, iv_X5_addHalf.1, iv_X5_addHalf.2, yk_X5_addHalf⟩
theorem m_X6_82 : MV RX6 82 1 yX5_isHalf cX5_isHalf 2 (some .boolean) 1 := ⟨⟨5, _, _, _, rfl, rfl⟩, Or.inr ⟨"LongSong", List.mem_of_getElem? (i := 465) (by decide +kernel)⟩, iv_X5_isHalf.1, iv_X5_isHalf.2, yk_X5_isHalf⟩
theorem m_X6_89 : MV RX6 89 1 yX5_addLine cX5_addLine 6 (some .int) 5 := ⟨⟨5, _, _, _, rfl, rfl⟩, Or.inr ⟨"LongSong", List.mem_of_getElem? (i := 469) (by decide +kernel)⟩, iv_X5_addLine.1, iv_X5_addLine.2, yk_X5_addLine⟩
theorem m_X6_96 : MV RX6 96 1 yX5_isLine cX5_isLine 2 (some .boolean) 1 := ⟨⟨5, _, _, _, rfl, rfl⟩, Or.inr ⟨"LongSong", List.mem_of_getElem? (i := 481) (by decide +kernel)⟩, iv_X5_isLine.1, iv_X5_isLine.2, yk_X5_isLine⟩
theorem m_X6_115 : MS RX6 115 yX6_bit cX6_bit 3 (some .int) 2 := ⟨Or.inl (gT_of 485 (by decide +kernel) (by decide +kernel)), st_X6_bit, yk_X6_bit⟩
theorem m_X6_119 : MV RX6 119 1 yX5_scans cX5_scans 3 (some .boolean) 1 := ⟨⟨5, _, _, _, rfl, rfl⟩, Or.inr ⟨"LongSong", List.mem_of_getElem? (i := 488) (by decide +kernel)⟩, iv_X5_scans.1, iv_X5_scans.2, yk_X5_scans⟩
theorem m_X6_122 : MV RX6 122 1 yX5_lineBeats cX5_lineBeats 3 (some .int) 1 := ⟨⟨5, _, _, _, rfl, rfl⟩, Or.inr ⟨"LongSong", List.mem_of_getElem? (i := 508) (by decide +kernel)⟩, iv_X5_lineBeats.1, iv_X5_lineBeats.2, yk_X5_lineBeats⟩
theorem m_X6_126 : MV RX6 126 1 yX5_lineHeavy cX5_lineHeavy 4 (some .int) 1 := ⟨⟨5, _, _, _, rfl, rfl⟩, Or.inr ⟨"LongSong", List.mem_of_getElem? (i := 512) (by decide +kernel)⟩, iv_X5_lineHeavy.1, iv_X5_lineHeavy.2, yk_X5_lineHeavy⟩
theorem m_X6_129 : MV RX6 129 1 yX5_putInPlace cX5_putInPlace 7 (some .int) 2 := ⟨⟨5, _, _, _, rfl, rfl⟩, Or.inr ⟨"LongSong", List.mem_of_getElem? (i := 520) (by decide +kernel)⟩, iv_X5_putInPlace.1, iv_X5_putInPlace.2, yk_X5_putInPlace⟩
theorem m_X6_139 : MS RX6 139 yX6_listed cX6_listed 3 (some .int) 3 := ⟨Or.inl (gT_of 545 (by decide +kernel) (by decide +kernel)), st_X6_listed, yk_X6_listed⟩
theorem m_X6_146 : MV RX6 146 14 yX2_append cX2_append 5 (some .int) 2 := ⟨⟨2, _, _, _, rfl, rfl⟩, Or.inr ⟨"LongSong", List.mem_of_getElem? (i := 552) (by decide +kernel)⟩, iv_X2_append.1, iv_X2_append.2, yk_X2_append⟩
theorem m_X6_149 : MV RX6 149 14 yX2_tellTape cX2_tellTape 2 (some .int) 0 := ⟨⟨2, _, _, _, rfl, rfl⟩, Or.inr ⟨"LongSong", List.mem_of_getElem? (i := 561) (by decide +kernel)⟩, iv_X2_tellTape.1, iv_X2_tellTape.2, yk_X2_tellTape⟩
theorem m_X6_156 : MV RX6 156 14 yX2_isTold cX2_isTold 2 (some .boolean) 1 := ⟨⟨2, _, _, _, rfl, rfl⟩, Or.inr ⟨"LongSong", List.mem_of_getElem? (i := 625) (by decide +kernel)⟩, iv_X2_isTold.1, iv_X2_isTold.2, yk_X2_isTold⟩
theorem m_X6_159 : MV RX6 159 23 yX0_isSinger cX0_isSinger 2 (some .boolean) 1 := ⟨⟨0, _, _, _, rfl, rfl⟩, Or.inr ⟨"LongSong", List.mem_of_getElem? (i := 626) (by decide +kernel)⟩, iv_X0_isSinger.1, iv_X0_isSinger.2, yk_X0_isSinger⟩
theorem m_X6_162 : MS RX6 162 yX6_isYear cX6_isYear 1 (some .boolean) 1 := ⟨Or.inl (gT_of 630 (by decide +kernel) (by decide +kernel)), st_X6_isYear, yk_X6_isYear⟩
theorem m_X6_165 : MV RX6 165 23 yX0_stockOf cX0_stockOf 9 (some .long) 3 := ⟨⟨0, _, _, _, rfl, rfl⟩, Or.inr ⟨"LongSong", List.mem_of_getElem? (i := 633) (by decide +kernel)⟩, iv_X0_stockOf.1, iv_X0_stockOf.2, yk_X0_stockOf⟩
theorem m_X6_169 : MV RX6 169 33 yX4_perform cX4_perform 7 (some .boolean) 3 := ⟨⟨4, _, _, _, rfl, rfl⟩, Or.inr ⟨"LongSong", List.mem_of_getElem? (i := 639) (by decide +kernel)⟩, iv_X4_perform.1, iv_X4_perform.2, yk_X4_perform⟩
theorem m_X6_182 : MV RX6 182 23 yX0_addSinger cX0_addSinger 2 (some .int) 1 := ⟨⟨0, _, _, _, rfl, rfl⟩, Or.inr ⟨"LongSong", List.mem_of_getElem? (i := 708) (by decide +kernel)⟩, iv_X0_addSinger.1, iv_X0_addSinger.2, yk_X0_addSinger⟩
theorem m_X6_191 : MV RX6 191 23 yX0_enter cX0_enter 5 (some .int) 4 := ⟨⟨0, _, _, _, rfl, rfl⟩, Or.inr ⟨"LongSong", List.mem_of_getElem? (i := 720) (by decide +kernel)⟩, iv_X0_enter.1, iv_X0_enter.2, yk_X0_enter⟩
theorem m_X6_195 : MV RX6 195 23 yX0_isKnown cX0_isKnown 2 (some .boolean) 1 := ⟨⟨0, _, _, _, rfl, rfl⟩, Or.inr ⟨"LongSong", List.mem_of_getElem? (i := 732) (by decide +kernel)⟩, iv_X0_isKnown.1, iv_X0_isKnown.2, yk_X0_isKnown⟩
theorem m_X6_198 : MS RX6 198 yJ13_bitCount_95d88 cJ13_bitCount_95d88 2 (some .int) 1 := ⟨Or.inl (gT_of 740 (by decide +kernel) (by decide +kernel)), st_J13_bitCount_95d88, yk_J13_bitCount_95d88⟩
theorem m_X6_204 : MV RX6 204 23 yX0_openAt cX0_openAt 4 none 2 := ⟨⟨0, _, _, _, rfl, rfl⟩, Or.inr ⟨"LongSong", List.mem_of_getElem? (i := 745) (by decide +kernel)⟩, iv_X0_openAt.1, iv_X0_openAt.2, yk_X0_openAt⟩
theorem m_X6_208 : MV RX6 208 23 yX0_changes cX0_changes 3 (some .int) 2 := ⟨⟨0, _, _, _, rfl, rfl⟩, Or.inr ⟨"LongSong", List.mem_of_getElem? (i := 750) (by decide +kernel)⟩, iv_X0_changes.1, iv_X0_changes.2, yk_X0_changes⟩
theorem m_X6_211 : MV RX6 211 23 yX0_masterOf cX0_masterOf 4 (some .int) 1 := ⟨⟨0, _, _, _, rfl, rfl⟩, Or.inr ⟨"LongSong", List.mem_of_getElem? (i := 759) (by decide +kernel)⟩, iv_X0_masterOf.1, iv_X0_masterOf.2, yk_X0_masterOf⟩
theorem m_X6_218 : MV RX6 218 23 yX0_masterStock cX0_masterStock 3 (some .long) 1 := ⟨⟨0, _, _, _, rfl, rfl⟩, Or.inr ⟨"LongSong", List.mem_of_getElem? (i := 776) (by decide +kernel)⟩, iv_X0_masterStock.1, iv_X0_masterStock.2, yk_X0_masterStock⟩
theorem m_X6_224 : MV RX6 224 23 yX0_commonStock cX0_commonStock 4 (some .long) 0 := ⟨⟨0, _, _, _, rfl, rfl⟩, Or.inr ⟨"LongSong", List.mem_of_getElem? (i := 786) (by decide +kernel)⟩, iv_X0_commonStock.1, iv_X0_commonStock.2, yk_X0_commonStock⟩
theorem m_X6_228 : MS RX6 228 yX6_pick cX6_pick 5 (some .int) 2 := ⟨Or.inl (gT_of 790 (by decide +kernel) (by decide +kernel)), st_X6_pick, yk_X6_pick⟩
theorem m_X6_231 : MV RX6 231 23 yX0_villageWithMost cX0_villageWithMost 4 (some .int) 1 := ⟨⟨0, _, _, _, rfl, rfl⟩, Or.inr ⟨"LongSong", List.mem_of_getElem? (i := 795) (by decide +kernel)⟩, iv_X0_villageWithMost.1, iv_X0_villageWithMost.2, yk_X0_villageWithMost⟩
theorem m_X6_234 : MV RX6 234 37 yX1_take cX1_take 11 none 4 := ⟨⟨1, _, _, _, rfl, rfl⟩, Or.inr ⟨"LongSong", List.mem_of_getElem? (i := 808) (by decide +kernel)⟩, iv_X1_take.1, iv_X1_take.2, yk_X1_take⟩
theorem m_X6_238 : MV RX6 238 37 yX1_ways cX1_ways 4 (some .int) 1 := ⟨⟨1, _, _, _, rfl, rfl⟩, Or.inr ⟨"LongSong", List.mem_of_getElem? (i := 814) (by decide +kernel)⟩, iv_X1_ways.1, iv_X1_ways.2, yk_X1_ways⟩
theorem m_X6_241 : MV RX6 241 23 yX0_stockAround cX0_stockAround 5 (some .long) 1 := ⟨⟨0, _, _, _, rfl, rfl⟩, Or.inr ⟨"LongSong", List.mem_of_getElem? (i := 889) (by decide +kernel)⟩, iv_X0_stockAround.1, iv_X0_stockAround.2, yk_X0_stockAround⟩
theorem m_X6_247 : MV RX6 247 40 yX3_addRecording cX3_addRecording 6 (some .int) 5 := ⟨⟨3, _, _, _, rfl, rfl⟩, Or.inr ⟨"LongSong", List.mem_of_getElem? (i := 898) (by decide +kernel)⟩, iv_X3_addRecording.1, iv_X3_addRecording.2, yk_X3_addRecording⟩
theorem m_X6_251 : MV RX6 251 40 yX3_isRecording cX3_isRecording 2 (some .boolean) 1 := ⟨⟨3, _, _, _, rfl, rfl⟩, Or.inr ⟨"LongSong", List.mem_of_getElem? (i := 907) (by decide +kernel)⟩, iv_X3_isRecording.1, iv_X3_isRecording.2, yk_X3_isRecording⟩
theorem m_X6_254 : MV RX6 254 0 yX6_takeRecording cX6_takeRecording 3 none 2 := ⟨⟨6, _, _, _, rfl, rfl⟩, Or.inl (gT_of 911 (by decide +kernel) (by decide +kernel)), iv_X6_takeRecording.1, iv_X6_takeRecording.2, yk_X6_takeRecording⟩
theorem m_X6_260 : MV RX6 260 0 yX6_stockBehind cX6_stockBehind 3 (some .long) 2 := ⟨⟨6, _, _, _, rfl, rfl⟩, Or.inl (gT_of 915 (by decide +kernel) (by decide +kernel)), iv_X6_stockBehind.1, iv_X6_stockBehind.2, yk_X6_stockBehind⟩
theorem m_X6_264 : MV RX6 264 40 yX3_lacking cX3_lacking 7 (some .int) 2 := ⟨⟨3, _, _, _, rfl, rfl⟩, Or.inr ⟨"LongSong", List.mem_of_getElem? (i := 919) (by decide +kernel)⟩, iv_X3_lacking.1, iv_X3_lacking.2, yk_X3_lacking⟩
theorem m_X6_268 : MV RX6 268 40 yX3_lostPlaces cX3_lostPlaces 4 (some .int) 1 := ⟨⟨3, _, _, _, rfl, rfl⟩, Or.inr ⟨"LongSong", List.mem_of_getElem? (i := 924) (by decide +kernel)⟩, iv_X3_lostPlaces.1, iv_X3_lostPlaces.2, yk_X3_lostPlaces⟩
theorem m_X6_274 : MV RX6 274 40 yX3_isLost cX3_isLost 3 (some .boolean) 2 := ⟨⟨3, _, _, _, rfl, rfl⟩, Or.inr ⟨"LongSong", List.mem_of_getElem? (i := 936) (by decide +kernel)⟩, iv_X3_isLost.1, iv_X3_isLost.2, yk_X3_isLost⟩
theorem m_X6_277 : MV RX6 277 37 yX1_onlyLine cX1_onlyLine 7 (some .int) 2 := ⟨⟨1, _, _, _, rfl, rfl⟩, Or.inr ⟨"LongSong", List.mem_of_getElem? (i := 937) (by decide +kernel)⟩, iv_X1_onlyLine.1, iv_X1_onlyLine.2, yk_X1_onlyLine⟩
theorem m_X6_283 : MV RX6 283 1 yX5_scanning cX5_scanning 3 (some .int) 0 := ⟨⟨5, _, _, _, rfl, rfl⟩, Or.inr ⟨"LongSong", List.mem_of_getElem? (i := 951) (by decide +kernel)⟩, iv_X5_scanning.1, iv_X5_scanning.2, yk_X5_scanning⟩
theorem m_X7_152 : MS RX7 152 yX7_isIn cX7_isIn 6 (some .boolean) 3 := ⟨Or.inl (gT_of 1147 (by decide +kernel) (by decide +kernel)), st_X7_isIn, yk_X7_isIn⟩
theorem m_X7_158 : MS RX7 158 yX7_isName cX7_isName 1 (some .boolean) 1 := ⟨Or.inl (gT_of 1155 (by decide +kernel) (by decide +kernel)), st_X7_isName, yk_X7_isName⟩
theorem m_X7_164 : MV RX7 164 47 yX7_isHalf cX7_isHalf 2 (some .boolean) 1 := ⟨⟨7, _, _, _, rfl, rfl⟩, Or.inl (gT_of 1163 (by decide +kernel) (by decide +kernel)), iv_X7_isHalf.1, iv_X7_isHalf.2, yk_X7_isHalf⟩
theorem m_X7_175 : MV RX7 175 47 yX7_heavyOf cX7_heavyOf 5 (some .int) 2 := ⟨⟨7, _, _, _, rfl, rfl⟩, Or.inl (gT_of 1195 (by decide +kernel) (by decide +kernel)), iv_X7_heavyOf.1, iv_X7_heavyOf.2, yk_X7_heavyOf⟩
theorem m_X7_179 : MV RX7 179 47 yX7_longOf cX7_longOf 3 (some .int) 2 := ⟨⟨7, _, _, _, rfl, rfl⟩, Or.inl (gT_of 1187 (by decide +kernel) (by decide +kernel)), iv_X7_longOf.1, iv_X7_longOf.2, yk_X7_longOf⟩
theorem m_X7_182 : MV RX7 182 47 yX7_heavyAll cX7_heavyAll 4 (some .int) 3 := ⟨⟨7, _, _, _, rfl, rfl⟩, Or.inl (gT_of 1191 (by decide +kernel) (by decide +kernel)), iv_X7_heavyAll.1, iv_X7_heavyAll.2, yk_X7_heavyAll⟩
theorem m_X7_186 : MV RX7 186 47 yX7_isLine cX7_isLine 2 (some .boolean) 1 := ⟨⟨7, _, _, _, rfl, rfl⟩, Or.inl (gT_of 1179 (by decide +kernel) (by decide +kernel)), iv_X7_isLine.1, iv_X7_isLine.2, yk_X7_isLine⟩
theorem m_X7_189 : MV RX7 189 47 yX7_scans cX7_scans 4 (some .boolean) 3 := ⟨⟨7, _, _, _, rfl, rfl⟩, Or.inl (gT_of 1183 (by decide +kernel) (by decide +kernel)), iv_X7_scans.1, iv_X7_scans.2, yk_X7_scans⟩
theorem m_X7_196 : MV RX7 196 47 yX7_mends cX7_mends 8 (some .boolean) 1 := ⟨⟨7, _, _, _, rfl, rfl⟩, Or.inl (gT_of 1203 (by decide +kernel) (by decide +kernel)), iv_X7_mends.1, iv_X7_mends.2, yk_X7_mends⟩
theorem m_X7_210 : MV RX7 210 47 yX7_sign cX7_sign 1 (some .int) 0 := ⟨⟨7, _, _, _, rfl, rfl⟩, Or.inl (gT_of 1220 (by decide +kernel) (by decide +kernel)), iv_X7_sign.1, iv_X7_sign.2, yk_X7_sign⟩
theorem m_X7_214 : MS RX7 214 yX7_isSlot cX7_isSlot 1 (some .boolean) 1 := ⟨Or.inl (gT_of 1228 (by decide +kernel) (by decide +kernel)), st_X7_isSlot, yk_X7_isSlot⟩
theorem m_X7_217 : MS RX7 217 yX7_isScene cX7_isScene 1 (some .boolean) 1 := ⟨Or.inl (gT_of 1231 (by decide +kernel) (by decide +kernel)), st_X7_isScene, yk_X7_isScene⟩
theorem m_X7_220 : MV RX7 220 47 yX7_isTold cX7_isTold 2 (some .boolean) 1 := ⟨⟨7, _, _, _, rfl, rfl⟩, Or.inl (gT_of 1234 (by decide +kernel) (by decide +kernel)), iv_X7_isTold.1, iv_X7_isTold.2, yk_X7_isTold⟩
theorem m_X7_226 : MV RX7 226 47 yX7_parses cX7_parses 5 (some .boolean) 1 := ⟨⟨7, _, _, _, rfl, rfl⟩, Or.inl (gT_of 1224 (by decide +kernel) (by decide +kernel)), iv_X7_parses.1, iv_X7_parses.2, yk_X7_parses⟩
theorem m_X7_229 : MV RX7 229 47 yX7_standsInOther cX7_standsInOther 5 (some .boolean) 1 := ⟨⟨7, _, _, _, rfl, rfl⟩, Or.inl (gT_of 1238 (by decide +kernel) (by decide +kernel)), iv_X7_standsInOther.1, iv_X7_standsInOther.2, yk_X7_standsInOther⟩
theorem m_X7_244 : MV RX7 244 47 yX7_endFrom cX7_endFrom 6 (some .int) 2 := ⟨⟨7, _, _, _, rfl, rfl⟩, Or.inl (gT_of 1270 (by decide +kernel) (by decide +kernel)), iv_X7_endFrom.1, iv_X7_endFrom.2, yk_X7_endFrom⟩
theorem m_X7_247 : MV RX7 247 47 yX7_chooses cX7_chooses 3 (some .int) 1 := ⟨⟨7, _, _, _, rfl, rfl⟩, Or.inl (gT_of 1274 (by decide +kernel) (by decide +kernel)), iv_X7_chooses.1, iv_X7_chooses.2, yk_X7_chooses⟩
theorem m_X7_251 : MV RX7 251 47 yX7_behind cX7_behind 6 (some .int) 2 := ⟨⟨7, _, _, _, rfl, rfl⟩, Or.inl (gT_of 1278 (by decide +kernel) (by decide +kernel)), iv_X7_behind.1, iv_X7_behind.2, yk_X7_behind⟩
theorem m_X7_254 : MV RX7 254 47 yX7_linesOf cX7_linesOf 4 (some .int) 1 := ⟨⟨7, _, _, _, rfl, rfl⟩, Or.inl (gT_of 1282 (by decide +kernel) (by decide +kernel)), iv_X7_linesOf.1, iv_X7_linesOf.2, yk_X7_linesOf⟩
theorem m_X7_257 : MV RX7 257 47 yX7_lineOf cX7_lineOf 5 (some .int) 2 := ⟨⟨7, _, _, _, rfl, rfl⟩, Or.inl (gT_of 1286 (by decide +kernel) (by decide +kernel)), iv_X7_lineOf.1, iv_X7_lineOf.2, yk_X7_lineOf⟩
theorem m_X7_260 : MV RX7 260 47 yX7_isSinger cX7_isSinger 2 (some .boolean) 1 := ⟨⟨7, _, _, _, rfl, rfl⟩, Or.inl (gT_of 1251 (by decide +kernel) (by decide +kernel)), iv_X7_isSinger.1, iv_X7_isSinger.2, yk_X7_isSinger⟩
theorem m_X7_263 : MS RX7 263 yX7_isYear cX7_isYear 1 (some .boolean) 1 := ⟨Or.inl (gT_of 1255 (by decide +kernel) (by decide +kernel)), st_X7_isYear, yk_X7_isYear⟩
theorem m_X7_269 : MV RX7 269 47 yX7_findStock cX7_findStock 5 none 3 := ⟨⟨7, _, _, _, rfl, rfl⟩, Or.inl (gT_of 1258 (by decide +kernel) (by decide +kernel)), iv_X7_findStock.1, iv_X7_findStock.2, yk_X7_findStock⟩
theorem m_X7_273 : MV RX7 273 47 yX7_sings cX7_sings 9 (some .boolean) 1 := ⟨⟨7, _, _, _, rfl, rfl⟩, Or.inl (gT_of 1266 (by decide +kernel) (by decide +kernel)), iv_X7_sings.1, iv_X7_sings.2, yk_X7_sings⟩
theorem m_X7_285 : MS RX7 285 yX7_least cX7_least 2 (some .int) 1 := ⟨Or.inl (gT_of 1395 (by decide +kernel) (by decide +kernel)), st_X7_least, yk_X7_least⟩
theorem m_X7_289 : MV RX7 289 47 yX7_waysAt cX7_waysAt 4 (some .int) 2 := ⟨⟨7, _, _, _, rfl, rfl⟩, Or.inl (gT_of 1391 (by decide +kernel) (by decide +kernel)), iv_X7_waysAt.1, iv_X7_waysAt.2, yk_X7_waysAt⟩
theorem m_X7_292 : MV RX7 292 47 yX7_begins cX7_begins 2 none 0 := ⟨⟨7, _, _, _, rfl, rfl⟩, Or.inl (gT_of 1383 (by decide +kernel) (by decide +kernel)), iv_X7_begins.1, iv_X7_begins.2, yk_X7_begins⟩
theorem m_X7_295 : MV RX7 295 47 yX7_times cX7_times 8 none 2 := ⟨⟨7, _, _, _, rfl, rfl⟩, Or.inl (gT_of 1400 (by decide +kernel) (by decide +kernel)), iv_X7_times.1, iv_X7_times.2, yk_X7_times⟩
theorem m_X7_299 : MV RX7 299 47 yX7_goesBehind cX7_goesBehind 3 none 1 := ⟨⟨7, _, _, _, rfl, rfl⟩, Or.inl (gT_of 1408 (by decide +kernel) (by decide +kernel)), iv_X7_goesBehind.1, iv_X7_goesBehind.2, yk_X7_goesBehind⟩
theorem m_X7_303 : MV RX7 303 47 yX7_takesSlot cX7_takesSlot 4 none 1 := ⟨⟨7, _, _, _, rfl, rfl⟩, Or.inl (gT_of 1387 (by decide +kernel) (by decide +kernel)), iv_X7_takesSlot.1, iv_X7_takesSlot.2, yk_X7_takesSlot⟩
theorem m_X7_306 : MV RX7 306 47 yX7_closes cX7_closes 5 none 2 := ⟨⟨7, _, _, _, rfl, rfl⟩, Or.inl (gT_of 1404 (by decide +kernel) (by decide +kernel)), iv_X7_closes.1, iv_X7_closes.2, yk_X7_closes⟩
theorem m_X7_310 : MV RX7 310 47 yX7_findTable cX7_findTable 6 none 1 := ⟨⟨7, _, _, _, rfl, rfl⟩, Or.inl (gT_of 1379 (by decide +kernel) (by decide +kernel)), iv_X7_findTable.1, iv_X7_findTable.2, yk_X7_findTable⟩
theorem m_X7_318 : MV RX7 318 47 yX7_enters cX7_enters 5 (some .int) 4 := ⟨⟨7, _, _, _, rfl, rfl⟩, Or.inl (gT_of 1307 (by decide +kernel) (by decide +kernel)), iv_X7_enters.1, iv_X7_enters.2, yk_X7_enters⟩
theorem m_X7_322 : MV RX7 322 47 yX7_hasLine cX7_hasLine 7 (some .boolean) 4 := ⟨⟨7, _, _, _, rfl, rfl⟩, Or.inl (gT_of 1262 (by decide +kernel) (by decide +kernel)), iv_X7_hasLine.1, iv_X7_hasLine.2, yk_X7_hasLine⟩
theorem m_X7_326 : MV RX7 326 47 yX7_isKnown cX7_isKnown 2 (some .boolean) 1 := ⟨⟨7, _, _, _, rfl, rfl⟩, Or.inl (gT_of 1319 (by decide +kernel) (by decide +kernel)), iv_X7_isKnown.1, iv_X7_isKnown.2, yk_X7_isKnown⟩
theorem m_X7_329 : MV RX7 329 47 yX7_upTo cX7_upTo 2 (some .int) 1 := ⟨⟨7, _, _, _, rfl, rfl⟩, Or.inl (gT_of 1323 (by decide +kernel) (by decide +kernel)), iv_X7_upTo.1, iv_X7_upTo.2, yk_X7_upTo⟩
theorem m_X7_332 : MV RX7 332 47 yX7_unlikeBy cX7_unlikeBy 7 (some .int) 4 := ⟨⟨7, _, _, _, rfl, rfl⟩, Or.inl (gT_of 1335 (by decide +kernel) (by decide +kernel)), iv_X7_unlikeBy.1, iv_X7_unlikeBy.2, yk_X7_unlikeBy⟩
theorem m_X7_336 : MV RX7 336 47 yX7_masterOf cX7_masterOf 8 (some .int) 3 := ⟨⟨7, _, _, _, rfl, rfl⟩, Or.inl (gT_of 1343 (by decide +kernel) (by decide +kernel)), iv_X7_masterOf.1, iv_X7_masterOf.2, yk_X7_masterOf⟩
theorem m_X7_342 : MV RX7 342 47 yX7_sees cX7_sees 5 none 3 := ⟨⟨7, _, _, _, rfl, rfl⟩, Or.inl (gT_of 1371 (by decide +kernel) (by decide +kernel)), iv_X7_sees.1, iv_X7_sees.2, yk_X7_sees⟩
theorem m_X7_346 : MV RX7 346 47 yX7_runsOf cX7_runsOf 4 (some .int) 1 := ⟨⟨7, _, _, _, rfl, rfl⟩, Or.inl (gT_of 1375 (by decide +kernel) (by decide +kernel)), iv_X7_runsOf.1, iv_X7_runsOf.2, yk_X7_runsOf⟩
theorem m_X7_349 : MV RX7 349 47 yX7_isForged cX7_isForged 7 (some .boolean) 4 := ⟨⟨7, _, _, _, rfl, rfl⟩, Or.inl (gT_of 1416 (by decide +kernel) (by decide +kernel)), iv_X7_isForged.1, iv_X7_isForged.2, yk_X7_isForged⟩
theorem m_X7_355 : MV RX7 355 47 yX7_isRecording cX7_isRecording 2 (some .boolean) 1 := ⟨⟨7, _, _, _, rfl, rfl⟩, Or.inl (gT_of 1428 (by decide +kernel) (by decide +kernel)), iv_X7_isRecording.1, iv_X7_isRecording.2, yk_X7_isRecording⟩
theorem m_X7_358 : MV RX7 358 47 yX7_plays cX7_plays 3 none 2 := ⟨⟨7, _, _, _, rfl, rfl⟩, Or.inl (gT_of 1432 (by decide +kernel) (by decide +kernel)), iv_X7_plays.1, iv_X7_plays.2, yk_X7_plays⟩
theorem cp_ok : Cond.native arraycopyName ∈ gT ∧ Cond.static arraycopyName ∈ gT ∧ Cond.initialized "java/lang/System" ∈ gT := ⟨gT_of 612 (by decide +kernel) (by decide +kernel), gT_of 611 (by decide +kernel) (by decide +kernel), gT_of 126 (by decide +kernel) (by decide +kernel)⟩
theorem k_X2_53 : Cond.constantLong RX2 53 (255) ∈ gT := gT_of 556 (by decide +kernel) (by decide +kernel)
theorem k_X0_54 : Cond.constantLong RX0 54 (-1) ∈ gT := gT_of 638 (by decide +kernel) (by decide +kernel)
theorem k_X4_59 : Cond.constant RX4 59 (100000) ∈ gT := gT_of 647 (by decide +kernel) (by decide +kernel)
theorem k_J13_314 : Cond.constantLong RJ13 314 (6148914691236517205) ∈ gT := gT_of 685 (by decide +kernel) (by decide +kernel)
theorem k_J13_316 : Cond.constantLong RJ13 316 (3689348814741910323) ∈ gT := gT_of 686 (by decide +kernel) (by decide +kernel)
theorem k_J13_318 : Cond.constantLong RJ13 318 (1085102592571150095) ∈ gT := gT_of 687 (by decide +kernel) (by decide +kernel)
theorem k_X6_222 : Cond.constantLong RX6 222 (-1) ∈ gT := gT_of 781 (by decide +kernel) (by decide +kernel)
theorem k_X1_134 : Cond.constant RX1 134 (1000000) ∈ gT := gT_of 842 (by decide +kernel) (by decide +kernel)
theorem k_X1_140 : Cond.constantLong RX1 140 (1000000) ∈ gT := gT_of 856 (by decide +kernel) (by decide +kernel)
theorem k_X7_150 : Cond.constantLong RX7 150 (8) ∈ gT := gT_of 1146 (by decide +kernel) (by decide +kernel)
theorem k_X7_156 : Cond.constantLong RX7 156 (-1) ∈ gT := gT_of 1150 (by decide +kernel) (by decide +kernel)
theorem k_X7_162 : Cond.constantLong RX7 162 (4) ∈ gT := gT_of 1158 (by decide +kernel) (by decide +kernel)
theorem k_X7_167 : Cond.constantLong RX7 167 (7) ∈ gT := gT_of 1167 (by decide +kernel) (by decide +kernel)
theorem k_X7_169 : Cond.constantLong RX7 169 (2) ∈ gT := gT_of 1172 (by decide +kernel) (by decide +kernel)
theorem k_X7_171 : Cond.constantLong RX7 171 (12) ∈ gT := gT_of 1173 (by decide +kernel) (by decide +kernel)
theorem k_X7_173 : Cond.constantLong RX7 173 (16777215) ∈ gT := gT_of 1174 (by decide +kernel) (by decide +kernel)
theorem k_X7_202 : Cond.constantLong RX7 202 (255) ∈ gT := gT_of 1215 (by decide +kernel) (by decide +kernel)
theorem k_X7_235 : Cond.constantLong RX7 235 (3) ∈ gT := gT_of 1246 (by decide +kernel) (by decide +kernel)
theorem k_X7_316 : Cond.constantLong RX7 316 (9) ∈ gT := gT_of 1302 (by decide +kernel) (by decide +kernel)
theorem k_X7_279 : Cond.constantLong RX7 279 (1000000) ∈ gT := gT_of 1398 (by decide +kernel) (by decide +kernel)
theorem k_X7_281 : Cond.constant RX7 281 (1000000) ∈ gT := gT_of 1399 (by decide +kernel) (by decide +kernel)
theorem k_L_45 : Cond.constantLong RL 45 (4294967295) ∈ gT := gT_of 1444 (by decide +kernel) (by decide +kernel)
end
