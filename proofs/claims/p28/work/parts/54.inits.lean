section
abbrev nl0 : Nat → Nat → Bool := fun _ _ => true
abbrev mZ : Mem := (fun _ _ => 0, fun _ _ => 0)
theorem vpm (g : Nat → Nat → Value) (F : List Nat) (j f : Nat) (h : F[j]? = some f) : vp_V (List.mapIdx g F) j = g j f := by
  show (List.mapIdx g F).getD j _ = _
  rw [List.getD_eq_getElem?_getD, List.getElem?_mapIdx, h]
  rfl
theorem oi_in : Cond.instanceMethod Lib.objectInit ∈ gT := gC_1 19 rfl rfl
theorem oi_co : Cond.code Lib.objectInit ⟨#[0xb1]⟩ 1 none ∈ gT := gC_1 20 rfl rfl
theorem ac_int : Cond.arrayClass .int ∈ gT := gC_1 93 rfl rfl
theorem ac_long : Cond.arrayClass .long ∈ gT := gC_1 94 rfl rfl
theorem ac_boolean : Cond.arrayClass .boolean ∈ gT := gC_1 194 rfl rfl
theorem lo_X6 : Cond.methodLink RX6 1 Lib.objectInit ∈ gT := gC_1 18 rfl rfl
theorem cl_X6_7 : Cond.classLink RX6 7 RX5 ∈ gT := gC_1 21 rfl rfl
theorem is_X5 : Cond.instantiable RX5 16 ∈ gT := gC_1 22 rfl rfl
theorem it_X5 : Cond.initialized RX5 ∈ gT := gC_1 2 rfl rfl
theorem lo_X5 : Cond.methodLink RX5 3 Lib.objectInit ∈ gT := gC_1 26 rfl rfl
theorem pr_X5_9 : PR RX5 9 1 0 (2 + 2) (.array .int) := ⟨5, _, _, _, _, tyX5, rfl, rfl, rfl, by decide, inG_X5, gC_1 30 rfl rfl, tyX5_ok, nmX5, rfl, by decide +kernel⟩
theorem pr_X5_15 : PR RX5 15 1 1 (3 + 2) (.array .int) := ⟨5, _, _, _, _, tyX5, rfl, rfl, rfl, by decide, inG_X5, gC_1 31 rfl rfl, tyX5_ok, nmX5, rfl, by decide +kernel⟩
theorem pr_X5_18 : PR RX5 18 1 2 (4 + 2) (.array .int) := ⟨5, _, _, _, _, tyX5, rfl, rfl, rfl, by decide, inG_X5, gC_1 32 rfl rfl, tyX5_ok, nmX5, rfl, by decide +kernel⟩
theorem pr_X5_21 : PR RX5 21 1 3 0 .int := ⟨5, _, _, _, _, tyX5, rfl, rfl, rfl, by decide, inG_X5, gC_1 33 rfl rfl, tyX5_ok, nmX5, rfl, by decide +kernel⟩
theorem pr_X5_25 : PR RX5 25 1 4 (5 + 2) (.array .int) := ⟨5, _, _, _, _, tyX5, rfl, rfl, rfl, by decide, inG_X5, gC_1 35 rfl rfl, tyX5_ok, nmX5, rfl, by decide +kernel⟩
theorem pr_X5_28 : PR RX5 28 1 5 (6 + 2) (.array .int) := ⟨5, _, _, _, _, tyX5, rfl, rfl, rfl, by decide, inG_X5, gC_1 37 rfl rfl, tyX5_ok, nmX5, rfl, by decide +kernel⟩
theorem pr_X5_31 : PR RX5 31 1 6 (7 + 2) (.array .int) := ⟨5, _, _, _, _, tyX5, rfl, rfl, rfl, by decide, inG_X5, gC_1 39 rfl rfl, tyX5_ok, nmX5, rfl, by decide +kernel⟩
theorem pr_X5_34 : PR RX5 34 1 7 (8 + 2) (.array .int) := ⟨5, _, _, _, _, tyX5, rfl, rfl, rfl, by decide, inG_X5, gC_1 41 rfl rfl, tyX5_ok, nmX5, rfl, by decide +kernel⟩
theorem pr_X5_37 : PR RX5 37 1 8 (9 + 2) (.array .int) := ⟨5, _, _, _, _, tyX5, rfl, rfl, rfl, by decide, inG_X5, gC_1 43 rfl rfl, tyX5_ok, nmX5, rfl, by decide +kernel⟩
theorem pr_X5_40 : PR RX5 40 1 9 (10 + 2) (.array .int) := ⟨5, _, _, _, _, tyX5, rfl, rfl, rfl, by decide, inG_X5, gC_1 45 rfl rfl, tyX5_ok, nmX5, rfl, by decide +kernel⟩
theorem pr_X5_43 : PR RX5 43 1 10 (11 + 2) (.array .long) := ⟨5, _, _, _, _, tyX5, rfl, rfl, rfl, by decide, inG_X5, gC_1 47 rfl rfl, tyX5_ok, nmX5, rfl, by decide +kernel⟩
theorem pr_X5_47 : PR RX5 47 1 11 1 .long := ⟨5, _, _, _, _, tyX5, rfl, rfl, rfl, by decide, inG_X5, gC_1 50 rfl rfl, tyX5_ok, nmX5, rfl, by decide +kernel⟩
theorem pr_X5_51 : PR RX5 51 1 12 0 .int := ⟨5, _, _, _, _, tyX5, rfl, rfl, rfl, by decide, inG_X5, gC_1 52 rfl rfl, tyX5_ok, nmX5, rfl, by decide +kernel⟩
theorem pr_X5_54 : PR RX5 54 1 13 (12 + 2) (.array .int) := ⟨5, _, _, _, _, tyX5, rfl, rfl, rfl, by decide, inG_X5, gC_1 54 rfl rfl, tyX5_ok, nmX5, rfl, by decide +kernel⟩
theorem pr_X5_57 : PR RX5 57 1 14 (13 + 2) (.array .int) := ⟨5, _, _, _, _, tyX5, rfl, rfl, rfl, by decide, inG_X5, gC_1 56 rfl rfl, tyX5_ok, nmX5, rfl, by decide +kernel⟩
theorem pr_X5_60 : PR RX5 60 1 15 0 .int := ⟨5, _, _, _, _, tyX5, rfl, rfl, rfl, by decide, inG_X5, gC_1 58 rfl rfl, tyX5_ok, nmX5, rfl, by decide +kernel⟩
theorem m_X5_63 : MS RX5 63 yJ7_fill_53178 cJ7_fill_53178 4 none 2 := ⟨Or.inl (gC_1 27 rfl rfl), st_J7_fill_53178, yk_J7_fill_53178⟩
theorem li_X6_9 : MLk RX6 9 yX5_init := Or.inr ⟨"LongSong", List.mem_of_getElem? (i := 139) (by decide +kernel)⟩
theorem ii_X5 : Cond.instanceMethod yX5_init ∈ gT := gC_1 24 rfl rfl
theorem iy_X5 : YOK yX5_init cX5_init 1 none 0 := ⟨gC_1 2 rfl rfl, gC_1 25 rfl rfl, by decide +kernel, by decide +kernel, by decide +kernel⟩
theorem pr_X6_10 : PR RX6 10 0 0 (1 + 2) (.object "LongSong$Verse") := ⟨6, _, _, _, _, tyX6, rfl, rfl, rfl, by decide, inG_X6, gC_2 62 rfl rfl, tyX6_ok, nmX6, rfl, by decide +kernel⟩
theorem cl_X6_16 : Cond.classLink RX6 16 RX2 ∈ gT := gC_1 95 rfl rfl
theorem is_X2 : Cond.instantiable RX2 13 ∈ gT := gC_1 96 rfl rfl
theorem it_X2 : Cond.initialized RX2 ∈ gT := gC_1 4 rfl rfl
theorem lo_X2 : Cond.methodLink RX2 3 Lib.objectInit ∈ gT := gC_1 100 rfl rfl
theorem pr_X2_9 : PR RX2 9 14 0 (15 + 2) (.array .int) := ⟨2, _, _, _, _, tyX2, rfl, rfl, rfl, by decide, inG_X2, gC_1 101 rfl rfl, tyX2_ok, nmX2, rfl, by decide +kernel⟩
theorem pr_X2_15 : PR RX2 15 14 1 0 .int := ⟨2, _, _, _, _, tyX2, rfl, rfl, rfl, by decide, inG_X2, gC_1 102 rfl rfl, tyX2_ok, nmX2, rfl, by decide +kernel⟩
theorem pr_X2_19 : PR RX2 19 14 2 (16 + 2) (.array .int) := ⟨2, _, _, _, _, tyX2, rfl, rfl, rfl, by decide, inG_X2, gC_1 104 rfl rfl, tyX2_ok, nmX2, rfl, by decide +kernel⟩
theorem pr_X2_22 : PR RX2 22 14 3 (17 + 2) (.array .int) := ⟨2, _, _, _, _, tyX2, rfl, rfl, rfl, by decide, inG_X2, gC_1 105 rfl rfl, tyX2_ok, nmX2, rfl, by decide +kernel⟩
theorem pr_X2_25 : PR RX2 25 14 4 0 .int := ⟨2, _, _, _, _, tyX2, rfl, rfl, rfl, by decide, inG_X2, gC_1 106 rfl rfl, tyX2_ok, nmX2, rfl, by decide +kernel⟩
theorem pr_X2_28 : PR RX2 28 14 5 0 .boolean := ⟨2, _, _, _, _, tyX2, rfl, rfl, rfl, by decide, inG_X2, gC_1 107 rfl rfl, tyX2_ok, nmX2, rfl, by decide +kernel⟩
theorem pr_X2_32 : PR RX2 32 14 6 (18 + 2) (.array .int) := ⟨2, _, _, _, _, tyX2, rfl, rfl, rfl, by decide, inG_X2, gC_1 108 rfl rfl, tyX2_ok, nmX2, rfl, by decide +kernel⟩
theorem pr_X2_35 : PR RX2 35 14 7 (19 + 2) (.array .int) := ⟨2, _, _, _, _, tyX2, rfl, rfl, rfl, by decide, inG_X2, gC_1 109 rfl rfl, tyX2_ok, nmX2, rfl, by decide +kernel⟩
theorem pr_X2_38 : PR RX2 38 14 8 (20 + 2) (.array .int) := ⟨2, _, _, _, _, tyX2, rfl, rfl, rfl, by decide, inG_X2, gC_1 110 rfl rfl, tyX2_ok, nmX2, rfl, by decide +kernel⟩
theorem pr_X2_41 : PR RX2 41 14 9 (21 + 2) (.array .int) := ⟨2, _, _, _, _, tyX2, rfl, rfl, rfl, by decide, inG_X2, gC_1 113 rfl rfl, tyX2_ok, nmX2, rfl, by decide +kernel⟩
theorem pr_X2_44 : PR RX2 44 14 10 (22 + 2) (.array .int) := ⟨2, _, _, _, _, tyX2, rfl, rfl, rfl, by decide, inG_X2, gC_1 114 rfl rfl, tyX2_ok, nmX2, rfl, by decide +kernel⟩
theorem pr_X2_47 : PR RX2 47 14 11 0 .int := ⟨2, _, _, _, _, tyX2, rfl, rfl, rfl, by decide, inG_X2, gC_1 116 rfl rfl, tyX2_ok, nmX2, rfl, by decide +kernel⟩
theorem pr_X2_50 : PR RX2 50 14 12 0 .int := ⟨2, _, _, _, _, tyX2, rfl, rfl, rfl, by decide, inG_X2, gC_1 119 rfl rfl, tyX2_ok, nmX2, rfl, by decide +kernel⟩
theorem li_X6_18 : MLk RX6 18 yX2_init := Or.inr ⟨"LongSong", List.mem_of_getElem? (i := 213) (by decide +kernel)⟩
theorem ii_X2 : Cond.instanceMethod yX2_init ∈ gT := gC_1 98 rfl rfl
theorem iy_X2 : YOK yX2_init cX2_init 1 none 0 := ⟨gC_1 4 rfl rfl, gC_1 99 rfl rfl, by decide +kernel, by decide +kernel, by decide +kernel⟩
theorem pr_X6_19 : PR RX6 19 0 1 (14 + 2) (.object "LongSong$Scenes") := ⟨6, _, _, _, _, tyX6, rfl, rfl, rfl, by decide, inG_X6, gC_2 63 rfl rfl, tyX6_ok, nmX6, rfl, by decide +kernel⟩
theorem cl_X6_23 : Cond.classLink RX6 23 RX0 ∈ gT := gC_1 150 rfl rfl
theorem is_X0 : Cond.instantiable RX0 11 ∈ gT := gC_1 151 rfl rfl
theorem it_X0 : Cond.initialized RX0 ∈ gT := gC_1 5 rfl rfl
theorem lo_X0 : Cond.methodLink RX0 3 Lib.objectInit ∈ gT := gC_1 155 rfl rfl
theorem pr_X0_9 : PR RX0 9 23 0 (24 + 2) (.array .int) := ⟨0, _, _, _, _, tyX0, rfl, rfl, rfl, by decide, inG_X0, gC_1 156 rfl rfl, tyX0_ok, nmX0, rfl, by decide +kernel⟩
theorem pr_X0_15 : PR RX0 15 23 1 (25 + 2) (.array .int) := ⟨0, _, _, _, _, tyX0, rfl, rfl, rfl, by decide, inG_X0, gC_1 157 rfl rfl, tyX0_ok, nmX0, rfl, by decide +kernel⟩
theorem pr_X0_18 : PR RX0 18 23 2 0 .int := ⟨0, _, _, _, _, tyX0, rfl, rfl, rfl, by decide, inG_X0, gC_1 159 rfl rfl, tyX0_ok, nmX0, rfl, by decide +kernel⟩
theorem pr_X0_22 : PR RX0 22 23 3 (26 + 2) (.array .int) := ⟨0, _, _, _, _, tyX0, rfl, rfl, rfl, by decide, inG_X0, gC_1 161 rfl rfl, tyX0_ok, nmX0, rfl, by decide +kernel⟩
theorem pr_X0_25 : PR RX0 25 23 4 (27 + 2) (.array .int) := ⟨0, _, _, _, _, tyX0, rfl, rfl, rfl, by decide, inG_X0, gC_1 162 rfl rfl, tyX0_ok, nmX0, rfl, by decide +kernel⟩
theorem pr_X0_28 : PR RX0 28 23 5 (28 + 2) (.array .int) := ⟨0, _, _, _, _, tyX0, rfl, rfl, rfl, by decide, inG_X0, gC_1 163 rfl rfl, tyX0_ok, nmX0, rfl, by decide +kernel⟩
theorem pr_X0_31 : PR RX0 31 23 6 (29 + 2) (.array .boolean) := ⟨0, _, _, _, _, tyX0, rfl, rfl, rfl, by decide, inG_X0, gC_1 164 rfl rfl, tyX0_ok, nmX0, rfl, by decide +kernel⟩
theorem pr_X0_35 : PR RX0 35 23 7 0 .int := ⟨0, _, _, _, _, tyX0, rfl, rfl, rfl, by decide, inG_X0, gC_1 165 rfl rfl, tyX0_ok, nmX0, rfl, by decide +kernel⟩
theorem pr_X0_38 : PR RX0 38 23 8 (30 + 2) (.array .int) := ⟨0, _, _, _, _, tyX0, rfl, rfl, rfl, by decide, inG_X0, gC_1 167 rfl rfl, tyX0_ok, nmX0, rfl, by decide +kernel⟩
theorem pr_X0_41 : PR RX0 41 23 9 (31 + 2) (.array .long) := ⟨0, _, _, _, _, tyX0, rfl, rfl, rfl, by decide, inG_X0, gC_1 168 rfl rfl, tyX0_ok, nmX0, rfl, by decide +kernel⟩
theorem pr_X0_45 : PR RX0 45 23 10 (32 + 2) (.array .int) := ⟨0, _, _, _, _, tyX0, rfl, rfl, rfl, by decide, inG_X0, gC_1 170 rfl rfl, tyX0_ok, nmX0, rfl, by decide +kernel⟩
theorem li_X6_25 : MLk RX6 25 yX0_init := Or.inr ⟨"LongSong", List.mem_of_getElem? (i := 268) (by decide +kernel)⟩
theorem ii_X0 : Cond.instanceMethod yX0_init ∈ gT := gC_1 153 rfl rfl
theorem iy_X0 : YOK yX0_init cX0_init 1 none 0 := ⟨gC_1 5 rfl rfl, gC_1 154 rfl rfl, by decide +kernel, by decide +kernel, by decide +kernel⟩
theorem pr_X6_26 : PR RX6 26 0 2 (23 + 2) (.object "LongSong$Book") := ⟨6, _, _, _, _, tyX6, rfl, rfl, rfl, by decide, inG_X6, gC_2 64 rfl rfl, tyX6_ok, nmX6, rfl, by decide +kernel⟩
theorem cl_X6_30 : Cond.classLink RX6 30 RX4 ∈ gT := gC_1 195 rfl rfl
theorem is_X4 : Cond.instantiable RX4 13 ∈ gT := gC_1 196 rfl rfl
theorem it_X4 : Cond.initialized RX4 ∈ gT := gC_1 6 rfl rfl
theorem lo_X4 : Cond.methodLink RX4 3 Lib.objectInit ∈ gT := gC_1 200 rfl rfl
theorem pr_X4_9 : PR RX4 9 33 2 (34 + 2) (.array .int) := ⟨4, _, _, _, _, tyX4, rfl, rfl, rfl, by decide, inG_X4, gC_1 203 rfl rfl, tyX4_ok, nmX4, rfl, by decide +kernel⟩
theorem pr_X4_15 : PR RX4 15 33 3 0 .int := ⟨4, _, _, _, _, tyX4, rfl, rfl, rfl, by decide, inG_X4, gC_1 205 rfl rfl, tyX4_ok, nmX4, rfl, by decide +kernel⟩
theorem pr_X4_19 : PR RX4 19 33 4 (35 + 2) (.array .int) := ⟨4, _, _, _, _, tyX4, rfl, rfl, rfl, by decide, inG_X4, gC_1 207 rfl rfl, tyX4_ok, nmX4, rfl, by decide +kernel⟩
theorem pr_X4_22 : PR RX4 22 33 5 0 .int := ⟨4, _, _, _, _, tyX4, rfl, rfl, rfl, by decide, inG_X4, gC_1 208 rfl rfl, tyX4_ok, nmX4, rfl, by decide +kernel⟩
theorem pr_X4_25 : PR RX4 25 33 6 (36 + 2) (.array .int) := ⟨4, _, _, _, _, tyX4, rfl, rfl, rfl, by decide, inG_X4, gC_1 209 rfl rfl, tyX4_ok, nmX4, rfl, by decide +kernel⟩
theorem pr_X4_28 : PR RX4 28 33 7 0 .int := ⟨4, _, _, _, _, tyX4, rfl, rfl, rfl, by decide, inG_X4, gC_1 210 rfl rfl, tyX4_ok, nmX4, rfl, by decide +kernel⟩
theorem pr_X4_31 : PR RX4 31 33 8 0 .int := ⟨4, _, _, _, _, tyX4, rfl, rfl, rfl, by decide, inG_X4, gC_1 211 rfl rfl, tyX4_ok, nmX4, rfl, by decide +kernel⟩
theorem pr_X4_34 : PR RX4 34 33 9 0 .int := ⟨4, _, _, _, _, tyX4, rfl, rfl, rfl, by decide, inG_X4, gC_1 212 rfl rfl, tyX4_ok, nmX4, rfl, by decide +kernel⟩
theorem pr_X4_37 : PR RX4 37 33 10 0 .int := ⟨4, _, _, _, _, tyX4, rfl, rfl, rfl, by decide, inG_X4, gC_1 213 rfl rfl, tyX4_ok, nmX4, rfl, by decide +kernel⟩
theorem pr_X4_40 : PR RX4 40 33 11 1 .long := ⟨4, _, _, _, _, tyX4, rfl, rfl, rfl, by decide, inG_X4, gC_1 214 rfl rfl, tyX4_ok, nmX4, rfl, by decide +kernel⟩
theorem pr_X4_44 : PR RX4 44 33 12 1 .long := ⟨4, _, _, _, _, tyX4, rfl, rfl, rfl, by decide, inG_X4, gC_1 215 rfl rfl, tyX4_ok, nmX4, rfl, by decide +kernel⟩
theorem pr_X4_47 : PR RX4 47 33 0 (1 + 2) (.object "LongSong$Verse") := ⟨4, _, _, _, _, tyX4, rfl, rfl, rfl, by decide, inG_X4, gC_1 201 rfl rfl, tyX4_ok, nmX4, rfl, by decide +kernel⟩
theorem pr_X4_51 : PR RX4 51 33 1 (14 + 2) (.object "LongSong$Scenes") := ⟨4, _, _, _, _, tyX4, rfl, rfl, rfl, by decide, inG_X4, gC_1 202 rfl rfl, tyX4_ok, nmX4, rfl, by decide +kernel⟩
theorem li_X6_32 : MLk RX6 32 yX4_init := Or.inr ⟨"LongSong", List.mem_of_getElem? (i := 313) (by decide +kernel)⟩
theorem ii_X4 : Cond.instanceMethod yX4_init ∈ gT := gC_1 198 rfl rfl
theorem iy_X4 : YOK yX4_init cX4_init 3 none 2 := ⟨gC_1 6 rfl rfl, gC_1 199 rfl rfl, by decide +kernel, by decide +kernel, by decide +kernel⟩
theorem pr_X6_35 : PR RX6 35 0 3 (33 + 2) (.object "LongSong$Singing") := ⟨6, _, _, _, _, tyX6, rfl, rfl, rfl, by decide, inG_X6, gC_2 65 rfl rfl, tyX6_ok, nmX6, rfl, by decide +kernel⟩
theorem cl_X6_39 : Cond.classLink RX6 39 RX1 ∈ gT := gC_2 3 rfl rfl
theorem is_X1 : Cond.instantiable RX1 7 ∈ gT := gC_2 4 rfl rfl
theorem it_X1 : Cond.initialized RX1 ∈ gT := gC_1 7 rfl rfl
theorem lo_X1 : Cond.methodLink RX1 3 Lib.objectInit ∈ gT := gC_2 8 rfl rfl
theorem pr_X1_11 : PR RX1 11 37 2 (38 + 2) (.array .int) := ⟨1, _, _, _, _, tyX1, rfl, rfl, rfl, by decide, inG_X1, gC_2 11 rfl rfl, tyX1_ok, nmX1, rfl, by decide +kernel⟩
theorem pr_X1_15 : PR RX1 15 37 3 (39 + 2) (.array .int) := ⟨1, _, _, _, _, tyX1, rfl, rfl, rfl, by decide, inG_X1, gC_2 12 rfl rfl, tyX1_ok, nmX1, rfl, by decide +kernel⟩
theorem pr_X1_18 : PR RX1 18 37 4 1 .long := ⟨1, _, _, _, _, tyX1, rfl, rfl, rfl, by decide, inG_X1, gC_2 13 rfl rfl, tyX1_ok, nmX1, rfl, by decide +kernel⟩
theorem pr_X1_22 : PR RX1 22 37 5 0 .int := ⟨1, _, _, _, _, tyX1, rfl, rfl, rfl, by decide, inG_X1, gC_2 14 rfl rfl, tyX1_ok, nmX1, rfl, by decide +kernel⟩
theorem pr_X1_26 : PR RX1 26 37 6 0 .int := ⟨1, _, _, _, _, tyX1, rfl, rfl, rfl, by decide, inG_X1, gC_2 15 rfl rfl, tyX1_ok, nmX1, rfl, by decide +kernel⟩
theorem pr_X1_29 : PR RX1 29 37 0 (1 + 2) (.object "LongSong$Verse") := ⟨1, _, _, _, _, tyX1, rfl, rfl, rfl, by decide, inG_X1, gC_2 9 rfl rfl, tyX1_ok, nmX1, rfl, by decide +kernel⟩
theorem pr_X1_33 : PR RX1 33 37 1 (14 + 2) (.object "LongSong$Scenes") := ⟨1, _, _, _, _, tyX1, rfl, rfl, rfl, by decide, inG_X1, gC_2 10 rfl rfl, tyX1_ok, nmX1, rfl, by decide +kernel⟩
theorem li_X6_41 : MLk RX6 41 yX1_init := Or.inr ⟨"LongSong", List.mem_of_getElem? (i := 361) (by decide +kernel)⟩
theorem ii_X1 : Cond.instanceMethod yX1_init ∈ gT := gC_2 6 rfl rfl
theorem iy_X1 : YOK yX1_init cX1_init 3 none 2 := ⟨gC_1 7 rfl rfl, gC_2 7 rfl rfl, by decide +kernel, by decide +kernel, by decide +kernel⟩
theorem pr_X6_42 : PR RX6 42 0 4 (37 + 2) (.object "LongSong$Reading") := ⟨6, _, _, _, _, tyX6, rfl, rfl, rfl, by decide, inG_X6, gC_2 66 rfl rfl, tyX6_ok, nmX6, rfl, by decide +kernel⟩
theorem cl_X6_46 : Cond.classLink RX6 46 RX3 ∈ gT := gC_2 31 rfl rfl
theorem is_X3 : Cond.instantiable RX3 6 ∈ gT := gC_2 32 rfl rfl
theorem it_X3 : Cond.initialized RX3 ∈ gT := gC_1 8 rfl rfl
theorem lo_X3 : Cond.methodLink RX3 3 Lib.objectInit ∈ gT := gC_2 36 rfl rfl
theorem pr_X3_9 : PR RX3 9 40 0 (41 + 2) (.array .int) := ⟨3, _, _, _, _, tyX3, rfl, rfl, rfl, by decide, inG_X3, gC_2 37 rfl rfl, tyX3_ok, nmX3, rfl, by decide +kernel⟩
theorem pr_X3_15 : PR RX3 15 40 1 (42 + 2) (.array .int) := ⟨3, _, _, _, _, tyX3, rfl, rfl, rfl, by decide, inG_X3, gC_2 39 rfl rfl, tyX3_ok, nmX3, rfl, by decide +kernel⟩
theorem pr_X3_18 : PR RX3 18 40 2 (43 + 2) (.array .int) := ⟨3, _, _, _, _, tyX3, rfl, rfl, rfl, by decide, inG_X3, gC_2 41 rfl rfl, tyX3_ok, nmX3, rfl, by decide +kernel⟩
theorem pr_X3_21 : PR RX3 21 40 3 (44 + 2) (.array .int) := ⟨3, _, _, _, _, tyX3, rfl, rfl, rfl, by decide, inG_X3, gC_2 43 rfl rfl, tyX3_ok, nmX3, rfl, by decide +kernel⟩
theorem pr_X3_24 : PR RX3 24 40 4 (45 + 2) (.array .int) := ⟨3, _, _, _, _, tyX3, rfl, rfl, rfl, by decide, inG_X3, gC_2 45 rfl rfl, tyX3_ok, nmX3, rfl, by decide +kernel⟩
theorem pr_X3_27 : PR RX3 27 40 5 0 .int := ⟨3, _, _, _, _, tyX3, rfl, rfl, rfl, by decide, inG_X3, gC_2 47 rfl rfl, tyX3_ok, nmX3, rfl, by decide +kernel⟩
theorem li_X6_48 : MLk RX6 48 yX3_init := Or.inr ⟨"LongSong", List.mem_of_getElem? (i := 389) (by decide +kernel)⟩
theorem ii_X3 : Cond.instanceMethod yX3_init ∈ gT := gC_2 34 rfl rfl
theorem iy_X3 : YOK yX3_init cX3_init 1 none 0 := ⟨gC_1 8 rfl rfl, gC_2 35 rfl rfl, by decide +kernel, by decide +kernel, by decide +kernel⟩
theorem pr_X6_49 : PR RX6 49 0 5 (40 + 2) (.object "LongSong$Shelf") := ⟨6, _, _, _, _, tyX6, rfl, rfl, rfl, by decide, inG_X6, gC_2 67 rfl rfl, tyX6_ok, nmX6, rfl, by decide +kernel⟩
theorem pr_X6_53 : PR RX6 53 0 6 (46 + 2) (.array .int) := ⟨6, _, _, _, _, tyX6, rfl, rfl, rfl, by decide, inG_X6, gC_2 68 rfl rfl, tyX6_ok, nmX6, rfl, by decide +kernel⟩
theorem pr_X6_57 : PR RX6 57 0 7 0 .int := ⟨6, _, _, _, _, tyX6, rfl, rfl, rfl, by decide, inG_X6, gC_2 69 rfl rfl, tyX6_ok, nmX6, rfl, by decide +kernel⟩
theorem lo_X7 : Cond.methodLink RX7 1 Lib.objectInit ∈ gT := gC_4 124 rfl rfl
theorem pr_X7_7 : PR RX7 7 47 0 (48 + 2) (.array .int) := ⟨7, _, _, _, _, tyX7, rfl, rfl, rfl, by decide, inG_X7, gC_4 125 rfl rfl, tyX7_ok, nmX7, rfl, by decide +kernel⟩
theorem pr_X7_13 : PR RX7 13 47 1 (49 + 2) (.array .int) := ⟨7, _, _, _, _, tyX7, rfl, rfl, rfl, by decide, inG_X7, gC_4 126 rfl rfl, tyX7_ok, nmX7, rfl, by decide +kernel⟩
theorem pr_X7_16 : PR RX7 16 47 2 (50 + 2) (.array .int) := ⟨7, _, _, _, _, tyX7, rfl, rfl, rfl, by decide, inG_X7, gC_4 127 rfl rfl, tyX7_ok, nmX7, rfl, by decide +kernel⟩
theorem pr_X7_19 : PR RX7 19 47 3 (51 + 2) (.array .int) := ⟨7, _, _, _, _, tyX7, rfl, rfl, rfl, by decide, inG_X7, gC_4 128 rfl rfl, tyX7_ok, nmX7, rfl, by decide +kernel⟩
theorem pr_X7_22 : PR RX7 22 47 4 (52 + 2) (.array .int) := ⟨7, _, _, _, _, tyX7, rfl, rfl, rfl, by decide, inG_X7, gC_4 129 rfl rfl, tyX7_ok, nmX7, rfl, by decide +kernel⟩
theorem pr_X7_25 : PR RX7 25 47 5 (53 + 2) (.array .int) := ⟨7, _, _, _, _, tyX7, rfl, rfl, rfl, by decide, inG_X7, gC_4 130 rfl rfl, tyX7_ok, nmX7, rfl, by decide +kernel⟩
theorem pr_X7_28 : PR RX7 28 47 6 (54 + 2) (.array .int) := ⟨7, _, _, _, _, tyX7, rfl, rfl, rfl, by decide, inG_X7, gC_4 131 rfl rfl, tyX7_ok, nmX7, rfl, by decide +kernel⟩
theorem pr_X7_31 : PR RX7 31 47 7 (55 + 2) (.array .int) := ⟨7, _, _, _, _, tyX7, rfl, rfl, rfl, by decide, inG_X7, gC_4 132 rfl rfl, tyX7_ok, nmX7, rfl, by decide +kernel⟩
theorem pr_X7_34 : PR RX7 34 47 8 (56 + 2) (.array .int) := ⟨7, _, _, _, _, tyX7, rfl, rfl, rfl, by decide, inG_X7, gC_4 133 rfl rfl, tyX7_ok, nmX7, rfl, by decide +kernel⟩
theorem pr_X7_37 : PR RX7 37 47 9 (57 + 2) (.array .int) := ⟨7, _, _, _, _, tyX7, rfl, rfl, rfl, by decide, inG_X7, gC_4 134 rfl rfl, tyX7_ok, nmX7, rfl, by decide +kernel⟩
theorem pr_X7_40 : PR RX7 40 47 10 (58 + 2) (.array .int) := ⟨7, _, _, _, _, tyX7, rfl, rfl, rfl, by decide, inG_X7, gC_4 135 rfl rfl, tyX7_ok, nmX7, rfl, by decide +kernel⟩
theorem pr_X7_43 : PR RX7 43 47 13 (59 + 2) (.array .int) := ⟨7, _, _, _, _, tyX7, rfl, rfl, rfl, by decide, inG_X7, gC_4 138 rfl rfl, tyX7_ok, nmX7, rfl, by decide +kernel⟩
theorem pr_X7_46 : PR RX7 46 47 15 (60 + 2) (.array .int) := ⟨7, _, _, _, _, tyX7, rfl, rfl, rfl, by decide, inG_X7, gC_4 140 rfl rfl, tyX7_ok, nmX7, rfl, by decide +kernel⟩
theorem pr_X7_49 : PR RX7 49 47 16 (61 + 2) (.array .int) := ⟨7, _, _, _, _, tyX7, rfl, rfl, rfl, by decide, inG_X7, gC_4 141 rfl rfl, tyX7_ok, nmX7, rfl, by decide +kernel⟩
theorem pr_X7_52 : PR RX7 52 47 17 (62 + 2) (.array .int) := ⟨7, _, _, _, _, tyX7, rfl, rfl, rfl, by decide, inG_X7, gC_4 142 rfl rfl, tyX7_ok, nmX7, rfl, by decide +kernel⟩
theorem pr_X7_55 : PR RX7 55 47 18 (63 + 2) (.array .int) := ⟨7, _, _, _, _, tyX7, rfl, rfl, rfl, by decide, inG_X7, gC_4 143 rfl rfl, tyX7_ok, nmX7, rfl, by decide +kernel⟩
theorem pr_X7_58 : PR RX7 58 47 19 (64 + 2) (.array .int) := ⟨7, _, _, _, _, tyX7, rfl, rfl, rfl, by decide, inG_X7, gC_4 144 rfl rfl, tyX7_ok, nmX7, rfl, by decide +kernel⟩
theorem pr_X7_61 : PR RX7 61 47 24 0 .int := ⟨7, _, _, _, _, tyX7, rfl, rfl, rfl, by decide, inG_X7, gC_4 149 rfl rfl, tyX7_ok, nmX7, rfl, by decide +kernel⟩
theorem pr_X7_65 : PR RX7 65 47 26 (65 + 2) (.array .int) := ⟨7, _, _, _, _, tyX7, rfl, rfl, rfl, by decide, inG_X7, gC_4 151 rfl rfl, tyX7_ok, nmX7, rfl, by decide +kernel⟩
theorem pr_X7_68 : PR RX7 68 47 27 (66 + 2) (.array .int) := ⟨7, _, _, _, _, tyX7, rfl, rfl, rfl, by decide, inG_X7, gC_4 152 rfl rfl, tyX7_ok, nmX7, rfl, by decide +kernel⟩
theorem pr_X7_71 : PR RX7 71 47 28 (67 + 2) (.array .int) := ⟨7, _, _, _, _, tyX7, rfl, rfl, rfl, by decide, inG_X7, gC_4 153 rfl rfl, tyX7_ok, nmX7, rfl, by decide +kernel⟩
theorem pr_X7_74 : PR RX7 74 47 29 (68 + 2) (.array .int) := ⟨7, _, _, _, _, tyX7, rfl, rfl, rfl, by decide, inG_X7, gC_4 154 rfl rfl, tyX7_ok, nmX7, rfl, by decide +kernel⟩
theorem pr_X7_77 : PR RX7 77 47 30 (69 + 2) (.array .int) := ⟨7, _, _, _, _, tyX7, rfl, rfl, rfl, by decide, inG_X7, gC_4 155 rfl rfl, tyX7_ok, nmX7, rfl, by decide +kernel⟩
theorem pr_X7_80 : PR RX7 80 47 31 (70 + 2) (.array .int) := ⟨7, _, _, _, _, tyX7, rfl, rfl, rfl, by decide, inG_X7, gC_4 156 rfl rfl, tyX7_ok, nmX7, rfl, by decide +kernel⟩
theorem pr_X7_83 : PR RX7 83 47 35 (71 + 2) (.array .int) := ⟨7, _, _, _, _, tyX7, rfl, rfl, rfl, by decide, inG_X7, gC_4 160 rfl rfl, tyX7_ok, nmX7, rfl, by decide +kernel⟩
theorem pr_X7_86 : PR RX7 86 47 36 (72 + 2) (.array .int) := ⟨7, _, _, _, _, tyX7, rfl, rfl, rfl, by decide, inG_X7, gC_4 161 rfl rfl, tyX7_ok, nmX7, rfl, by decide +kernel⟩
theorem pr_X7_89 : PR RX7 89 47 37 (73 + 2) (.array .int) := ⟨7, _, _, _, _, tyX7, rfl, rfl, rfl, by decide, inG_X7, gC_4 162 rfl rfl, tyX7_ok, nmX7, rfl, by decide +kernel⟩
theorem pr_X7_92 : PR RX7 92 47 38 (74 + 2) (.array .int) := ⟨7, _, _, _, _, tyX7, rfl, rfl, rfl, by decide, inG_X7, gC_4 163 rfl rfl, tyX7_ok, nmX7, rfl, by decide +kernel⟩
theorem pr_X7_95 : PR RX7 95 47 39 (75 + 2) (.array .int) := ⟨7, _, _, _, _, tyX7, rfl, rfl, rfl, by decide, inG_X7, gC_4 164 rfl rfl, tyX7_ok, nmX7, rfl, by decide +kernel⟩
theorem pr_X7_98 : PR RX7 98 47 40 (76 + 2) (.array .int) := ⟨7, _, _, _, _, tyX7, rfl, rfl, rfl, by decide, inG_X7, gC_4 165 rfl rfl, tyX7_ok, nmX7, rfl, by decide +kernel⟩
theorem pr_X7_101 : PR RX7 101 47 41 (77 + 2) (.array .int) := ⟨7, _, _, _, _, tyX7, rfl, rfl, rfl, by decide, inG_X7, gC_4 166 rfl rfl, tyX7_ok, nmX7, rfl, by decide +kernel⟩
theorem pr_X7_104 : PR RX7 104 47 42 (78 + 2) (.array .int) := ⟨7, _, _, _, _, tyX7, rfl, rfl, rfl, by decide, inG_X7, gC_4 167 rfl rfl, tyX7_ok, nmX7, rfl, by decide +kernel⟩
theorem pr_X7_107 : PR RX7 107 47 45 (79 + 2) (.array .int) := ⟨7, _, _, _, _, tyX7, rfl, rfl, rfl, by decide, inG_X7, gC_4 170 rfl rfl, tyX7_ok, nmX7, rfl, by decide +kernel⟩
theorem pr_X7_110 : PR RX7 110 47 46 (80 + 2) (.array .int) := ⟨7, _, _, _, _, tyX7, rfl, rfl, rfl, by decide, inG_X7, gC_4 171 rfl rfl, tyX7_ok, nmX7, rfl, by decide +kernel⟩
theorem pr_X7_113 : PR RX7 113 47 47 (81 + 2) (.array .int) := ⟨7, _, _, _, _, tyX7, rfl, rfl, rfl, by decide, inG_X7, gC_4 172 rfl rfl, tyX7_ok, nmX7, rfl, by decide +kernel⟩
theorem pr_X7_116 : PR RX7 116 47 48 (82 + 2) (.array .int) := ⟨7, _, _, _, _, tyX7, rfl, rfl, rfl, by decide, inG_X7, gC_4 173 rfl rfl, tyX7_ok, nmX7, rfl, by decide +kernel⟩
theorem pr_X7_119 : PR RX7 119 47 49 (83 + 2) (.array .int) := ⟨7, _, _, _, _, tyX7, rfl, rfl, rfl, by decide, inG_X7, gC_4 174 rfl rfl, tyX7_ok, nmX7, rfl, by decide +kernel⟩
theorem pr_X7_122 : PR RX7 122 47 50 (84 + 2) (.array .boolean) := ⟨7, _, _, _, _, tyX7, rfl, rfl, rfl, by decide, inG_X7, gC_4 175 rfl rfl, tyX7_ok, nmX7, rfl, by decide +kernel⟩
theorem pr_X7_126 : PR RX7 126 47 51 (85 + 2) (.array .boolean) := ⟨7, _, _, _, _, tyX7, rfl, rfl, rfl, by decide, inG_X7, gC_4 176 rfl rfl, tyX7_ok, nmX7, rfl, by decide +kernel⟩
theorem pr_X7_129 : PR RX7 129 47 54 (86 + 2) (.array .int) := ⟨7, _, _, _, _, tyX7, rfl, rfl, rfl, by decide, inG_X7, gC_4 179 rfl rfl, tyX7_ok, nmX7, rfl, by decide +kernel⟩
theorem pr_X7_132 : PR RX7 132 47 55 (87 + 2) (.array .int) := ⟨7, _, _, _, _, tyX7, rfl, rfl, rfl, by decide, inG_X7, gC_4 180 rfl rfl, tyX7_ok, nmX7, rfl, by decide +kernel⟩
theorem pr_X7_135 : PR RX7 135 47 56 (88 + 2) (.array .int) := ⟨7, _, _, _, _, tyX7, rfl, rfl, rfl, by decide, inG_X7, gC_4 181 rfl rfl, tyX7_ok, nmX7, rfl, by decide +kernel⟩
theorem pr_X7_138 : PR RX7 138 47 57 (89 + 2) (.array .int) := ⟨7, _, _, _, _, tyX7, rfl, rfl, rfl, by decide, inG_X7, gC_4 182 rfl rfl, tyX7_ok, nmX7, rfl, by decide +kernel⟩
theorem pr_X7_141 : PR RX7 141 47 58 (90 + 2) (.array .int) := ⟨7, _, _, _, _, tyX7, rfl, rfl, rfl, by decide, inG_X7, gC_4 183 rfl rfl, tyX7_ok, nmX7, rfl, by decide +kernel⟩
abbrev nul_X5 : Nat → Nat → Bool := nu (nu (nu (nu (nu (nu (nu (nu (nu (nu (nu (nu (nl0) 1 0) 1 1) 1 2) 1 4) 1 5) 1 6) 1 7) 1 8) 1 9) 1 10) 1 13) 1 14
abbrev mem_X5 : Mem := ui (ui (fillM (ui (ui (ul (ui (mZ) 1 3 0) 1 11 0) 1 12 0) 1 15 0) 5 10 1) 12 0 4) 12 1 6
set_option maxHeartbeats 4000000 in
set_option maxRecDepth 20000 in
theorem ci_X5 (base : Nat) : CtrI base yX5_init cX5_init 1 { frames := 1, cells := 12, slots := 351, locals := 38 } [.ref (base + 1)] (nl0) (mZ) 2 nul_X5 mem_X5 14 := by
  refine ctrI_of (L := [(0, .ref (base + 1))]) (by decide) rfl (Nat.le_of_ble_eq_true rfl) rfl ?_
  intro Γ Y q
  have Y : gY Γ cX5_init RX5 _ 1 base true := Y
  refine a_aload_n Y 0 rfl dX5_init_0 ?_
  refine a_obj Y lo_X5 oi_in oi_co (by decide) dX5_init_1 ?_
  refine a_aload_n Y 0 rfl dX5_init_4 ?_
  refine a_bipush Y 40 dX5_init_5 (by decide) ?_
  refine a_newa Y la_2 (fun _ => rfl) (show (40 : Int32).toInt = 40 by decide) (by decide) (by decide) ac_int dX5_init_7 ?_
  refine a_putRI Y pr_X5_9 (by decide) dX5_init_9 ?_
  refine a_aload_n Y 0 rfl dX5_init_12 ?_
  refine a_bipush Y 40 dX5_init_13 (by decide) ?_
  refine a_newa Y la_3 (fun _ => rfl) (show (40 : Int32).toInt = 40 by decide) (by decide) (by decide) ac_int dX5_init_15 ?_
  refine a_putRI Y pr_X5_15 (by decide) dX5_init_17 ?_
  refine a_aload_n Y 0 rfl dX5_init_20 ?_
  refine a_bipush Y 40 dX5_init_21 (by decide) ?_
  refine a_newa Y la_4 (fun _ => rfl) (show (40 : Int32).toInt = 40 by decide) (by decide) (by decide) ac_int dX5_init_23 ?_
  refine a_putRI Y pr_X5_18 (by decide) dX5_init_25 ?_
  refine a_aload_n Y 0 rfl dX5_init_28 ?_
  refine a_iconst Y 0 dX5_init_29 (by decide) ?_
  refine a_puti Y pr_X5_21 (by decide) dX5_init_30 ?_
  refine a_aload_n Y 0 rfl dX5_init_33 ?_
  refine a_bipush Y 10 dX5_init_34 (by decide) ?_
  refine a_newa Y la_5 (fun _ => rfl) (show (10 : Int32).toInt = 10 by decide) (by decide) (by decide) ac_int dX5_init_36 ?_
  refine a_putRI Y pr_X5_25 (by decide) dX5_init_38 ?_
  refine a_aload_n Y 0 rfl dX5_init_41 ?_
  refine a_bipush Y 10 dX5_init_42 (by decide) ?_
  refine a_newa Y la_6 (fun _ => rfl) (show (10 : Int32).toInt = 10 by decide) (by decide) (by decide) ac_int dX5_init_44 ?_
  refine a_putRI Y pr_X5_28 (by decide) dX5_init_46 ?_
  refine a_aload_n Y 0 rfl dX5_init_49 ?_
  refine a_bipush Y 40 dX5_init_50 (by decide) ?_
  refine a_newa Y la_7 (fun _ => rfl) (show (40 : Int32).toInt = 40 by decide) (by decide) (by decide) ac_int dX5_init_52 ?_
  refine a_putRI Y pr_X5_31 (by decide) dX5_init_54 ?_
  refine a_aload_n Y 0 rfl dX5_init_57 ?_
  refine a_bipush Y 40 dX5_init_58 (by decide) ?_
  refine a_newa Y la_8 (fun _ => rfl) (show (40 : Int32).toInt = 40 by decide) (by decide) (by decide) ac_int dX5_init_60 ?_
  refine a_putRI Y pr_X5_34 (by decide) dX5_init_62 ?_
  refine a_aload_n Y 0 rfl dX5_init_65 ?_
  refine a_bipush Y 40 dX5_init_66 (by decide) ?_
  refine a_newa Y la_9 (fun _ => rfl) (show (40 : Int32).toInt = 40 by decide) (by decide) (by decide) ac_int dX5_init_68 ?_
  refine a_putRI Y pr_X5_37 (by decide) dX5_init_70 ?_
  refine a_aload_n Y 0 rfl dX5_init_73 ?_
  refine a_bipush Y 40 dX5_init_74 (by decide) ?_
  refine a_newa Y la_10 (fun _ => rfl) (show (40 : Int32).toInt = 40 by decide) (by decide) (by decide) ac_int dX5_init_76 ?_
  refine a_putRI Y pr_X5_40 (by decide) dX5_init_78 ?_
  refine a_aload_n Y 0 rfl dX5_init_81 ?_
  refine a_bipush Y 8 dX5_init_82 (by decide) ?_
  refine a_newaJ Y la_11 (fun _ => rfl) (show (8 : Int32).toInt = 8 by decide) (by decide) (by decide) ac_long dX5_init_84 ?_
  refine a_putRJ Y pr_X5_43 (by decide) dX5_init_86 ?_
  refine a_aload_n Y 0 rfl dX5_init_89 ?_
  refine a_lconst Y 0 dX5_init_90 (by decide) ?_
  refine a_putl Y pr_X5_47 (by decide) dX5_init_91 ?_
  refine a_aload_n Y 0 rfl dX5_init_94 ?_
  refine a_iconst Y 0 dX5_init_95 (by decide) ?_
  refine a_puti Y pr_X5_51 (by decide) dX5_init_96 ?_
  refine a_aload_n Y 0 rfl dX5_init_99 ?_
  refine a_iconst Y 3 dX5_init_100 (by decide) ?_
  refine a_newa Y la_12 (fun _ => rfl) (show (3 : Int32).toInt = 3 by decide) (by decide) (by decide) ac_int dX5_init_101 ?_
  refine a_putRI Y pr_X5_54 (by decide) dX5_init_103 ?_
  refine a_aload_n Y 0 rfl dX5_init_106 ?_
  refine a_bipush Y 40 dX5_init_107 (by decide) ?_
  refine a_newa Y la_13 (fun _ => rfl) (show (40 : Int32).toInt = 40 by decide) (by decide) (by decide) ac_int dX5_init_109 ?_
  refine a_putRI Y pr_X5_57 (by decide) dX5_init_111 ?_
  refine a_aload_n Y 0 rfl dX5_init_114 ?_
  refine a_iconst Y 0 dX5_init_115 (by decide) ?_
  refine a_puti Y pr_X5_60 (by decide) dX5_init_116 ?_
  refine a_aload_n Y 0 rfl dX5_init_119 ?_
  refine a_getr Y (r := 5) f_X5_25 (by decide) rfl dX5_init_120 ?_
  refine a_iconst Y 1 dX5_init_123 (by decide) ?_
  refine a_callS Y m_X5_63 (ci_fill base _ _ _ 5 10 (by decide) la_5 (by decide) 1) rfl (by decide) (by decide) (Nat.le_of_ble_eq_true rfl) rfl dX5_init_124 ?_
  refine a_aload_n Y 0 rfl dX5_init_127 ?_
  refine a_getr Y (r := 12) f_X5_54 (by decide) rfl dX5_init_128 ?_
  refine a_iconst Y 0 dX5_init_131 (by decide) ?_
  refine a_iconst Y 4 dX5_init_132 (by decide) ?_
  refine a_iast Y la_12 (by decide) (show (0 : Int32).toInt = 0 by decide) dX5_init_133 (by decide) ?_
  refine a_aload_n Y 0 rfl dX5_init_134 ?_
  refine a_getr Y (r := 12) f_X5_54 (by decide) rfl dX5_init_135 ?_
  refine a_iconst Y 1 dX5_init_138 (by decide) ?_
  refine a_bipush Y 6 dX5_init_139 (by decide) ?_
  refine a_iast Y la_12 (by decide) (show (1 : Int32).toInt = 1 by decide) dX5_init_141 (by decide) ?_
  exact a_ret Y q ⟨rfl, rfl⟩ dX5_init_142
abbrev nul_X2 : Nat → Nat → Bool := nu (nu (nu (nu (nu (nu (nu (nu (nu (nul_X5) 0 0) 14 0) 14 2) 14 3) 14 6) 14 7) 14 8) 14 9) 14 10
abbrev mem_X2 : Mem := ui (ui (ui (ui (ui (mem_X5) 14 1 0) 14 4 0) 14 5 0) 14 11 0) 14 12 1
set_option maxHeartbeats 4000000 in
set_option maxRecDepth 20000 in
theorem ci_X2 (base : Nat) : CtrI base yX2_init cX2_init 1 { frames := 1, cells := 8, slots := 1164, locals := 38 } [.ref (base + 14)] (nu (nul_X5) 0 0) (mem_X5) 15 nul_X2 mem_X2 23 := by
  refine ctrI_of (L := [(0, .ref (base + 14))]) (by decide) rfl (Nat.le_of_ble_eq_true rfl) rfl ?_
  intro Γ Y q
  have Y : gY Γ cX2_init RX2 _ 1 base true := Y
  refine a_aload_n Y 0 rfl dX2_init_0 ?_
  refine a_obj Y lo_X2 oi_in oi_co (by decide) dX2_init_1 ?_
  refine a_aload_n Y 0 rfl dX2_init_4 ?_
  refine a_bipush Y 60 dX2_init_5 (by decide) ?_
  refine a_newa Y la_15 (fun _ => rfl) (show (60 : Int32).toInt = 60 by decide) (by decide) (by decide) ac_int dX2_init_7 ?_
  refine a_putRI Y pr_X2_9 (by decide) dX2_init_9 ?_
  refine a_aload_n Y 0 rfl dX2_init_12 ?_
  refine a_iconst Y 0 dX2_init_13 (by decide) ?_
  refine a_puti Y pr_X2_15 (by decide) dX2_init_14 ?_
  refine a_aload_n Y 0 rfl dX2_init_17 ?_
  refine a_bipush Y 60 dX2_init_18 (by decide) ?_
  refine a_newa Y la_16 (fun _ => rfl) (show (60 : Int32).toInt = 60 by decide) (by decide) (by decide) ac_int dX2_init_20 ?_
  refine a_putRI Y pr_X2_19 (by decide) dX2_init_22 ?_
  refine a_aload_n Y 0 rfl dX2_init_25 ?_
  refine a_bipush Y 60 dX2_init_26 (by decide) ?_
  refine a_newa Y la_17 (fun _ => rfl) (show (60 : Int32).toInt = 60 by decide) (by decide) (by decide) ac_int dX2_init_28 ?_
  refine a_putRI Y pr_X2_22 (by decide) dX2_init_30 ?_
  refine a_aload_n Y 0 rfl dX2_init_33 ?_
  refine a_iconst Y 0 dX2_init_34 (by decide) ?_
  refine a_puti Y pr_X2_25 (by decide) dX2_init_35 ?_
  refine a_aload_n Y 0 rfl dX2_init_38 ?_
  refine a_iconst Y 0 dX2_init_39 (by decide) ?_
  refine a_putz Y pr_X2_28 (by decide) (by decide) dX2_init_40 ?_
  refine a_aload_n Y 0 rfl dX2_init_43 ?_
  refine a_sipush Y 480 dX2_init_44 (by decide) ?_
  refine a_newa Y la_18 (fun _ => rfl) (show (480 : Int32).toInt = 480 by decide) (by decide) (by decide) ac_int dX2_init_47 ?_
  refine a_putRI Y pr_X2_32 (by decide) dX2_init_49 ?_
  refine a_aload_n Y 0 rfl dX2_init_52 ?_
  refine a_sipush Y 480 dX2_init_53 (by decide) ?_
  refine a_newa Y la_19 (fun _ => rfl) (show (480 : Int32).toInt = 480 by decide) (by decide) (by decide) ac_int dX2_init_56 ?_
  refine a_putRI Y pr_X2_35 (by decide) dX2_init_58 ?_
  refine a_aload_n Y 0 rfl dX2_init_61 ?_
  refine a_bipush Y 8 dX2_init_62 (by decide) ?_
  refine a_newa Y la_20 (fun _ => rfl) (show (8 : Int32).toInt = 8 by decide) (by decide) (by decide) ac_int dX2_init_64 ?_
  refine a_putRI Y pr_X2_38 (by decide) dX2_init_66 ?_
  refine a_aload_n Y 0 rfl dX2_init_69 ?_
  refine a_bipush Y 8 dX2_init_70 (by decide) ?_
  refine a_newa Y la_21 (fun _ => rfl) (show (8 : Int32).toInt = 8 by decide) (by decide) (by decide) ac_int dX2_init_72 ?_
  refine a_putRI Y pr_X2_41 (by decide) dX2_init_74 ?_
  refine a_aload_n Y 0 rfl dX2_init_77 ?_
  refine a_bipush Y 8 dX2_init_78 (by decide) ?_
  refine a_newa Y la_22 (fun _ => rfl) (show (8 : Int32).toInt = 8 by decide) (by decide) (by decide) ac_int dX2_init_80 ?_
  refine a_putRI Y pr_X2_44 (by decide) dX2_init_82 ?_
  refine a_aload_n Y 0 rfl dX2_init_85 ?_
  refine a_iconst Y 0 dX2_init_86 (by decide) ?_
  refine a_puti Y pr_X2_47 (by decide) dX2_init_87 ?_
  refine a_aload_n Y 0 rfl dX2_init_90 ?_
  refine a_iconst Y 1 dX2_init_91 (by decide) ?_
  refine a_puti Y pr_X2_50 (by decide) dX2_init_92 ?_
  exact a_ret Y q ⟨rfl, rfl⟩ dX2_init_95
abbrev nul_X0 : Nat → Nat → Bool := nu (nu (nu (nu (nu (nu (nu (nu (nu (nu (nul_X2) 0 1) 23 0) 23 1) 23 3) 23 4) 23 5) 23 6) 23 8) 23 9) 23 10
abbrev mem_X0 : Mem := ui (ui (mem_X2) 23 2 0) 23 7 0
set_option maxHeartbeats 4000000 in
set_option maxRecDepth 20000 in
theorem ci_X0 (base : Nat) : CtrI base yX0_init cX0_init 1 { frames := 1, cells := 9, slots := 874, locals := 38 } [.ref (base + 23)] (nu (nul_X2) 0 1) (mem_X2) 24 nul_X0 mem_X0 33 := by
  refine ctrI_of (L := [(0, .ref (base + 23))]) (by decide) rfl (Nat.le_of_ble_eq_true rfl) rfl ?_
  intro Γ Y q
  have Y : gY Γ cX0_init RX0 _ 1 base true := Y
  refine a_aload_n Y 0 rfl dX0_init_0 ?_
  refine a_obj Y lo_X0 oi_in oi_co (by decide) dX0_init_1 ?_
  refine a_aload_n Y 0 rfl dX0_init_4 ?_
  refine a_bipush Y 8 dX0_init_5 (by decide) ?_
  refine a_newa Y la_24 (fun _ => rfl) (show (8 : Int32).toInt = 8 by decide) (by decide) (by decide) ac_int dX0_init_7 ?_
  refine a_putRI Y pr_X0_9 (by decide) dX0_init_9 ?_
  refine a_aload_n Y 0 rfl dX0_init_12 ?_
  refine a_bipush Y 8 dX0_init_13 (by decide) ?_
  refine a_newa Y la_25 (fun _ => rfl) (show (8 : Int32).toInt = 8 by decide) (by decide) (by decide) ac_int dX0_init_15 ?_
  refine a_putRI Y pr_X0_15 (by decide) dX0_init_17 ?_
  refine a_aload_n Y 0 rfl dX0_init_20 ?_
  refine a_iconst Y 0 dX0_init_21 (by decide) ?_
  refine a_puti Y pr_X0_18 (by decide) dX0_init_22 ?_
  refine a_aload_n Y 0 rfl dX0_init_25 ?_
  refine a_sipush Y 200 dX0_init_26 (by decide) ?_
  refine a_newa Y la_26 (fun _ => rfl) (show (200 : Int32).toInt = 200 by decide) (by decide) (by decide) ac_int dX0_init_29 ?_
  refine a_putRI Y pr_X0_22 (by decide) dX0_init_31 ?_
  refine a_aload_n Y 0 rfl dX0_init_34 ?_
  refine a_sipush Y 200 dX0_init_35 (by decide) ?_
  refine a_newa Y la_27 (fun _ => rfl) (show (200 : Int32).toInt = 200 by decide) (by decide) (by decide) ac_int dX0_init_38 ?_
  refine a_putRI Y pr_X0_25 (by decide) dX0_init_40 ?_
  refine a_aload_n Y 0 rfl dX0_init_43 ?_
  refine a_sipush Y 200 dX0_init_44 (by decide) ?_
  refine a_newa Y la_28 (fun _ => rfl) (show (200 : Int32).toInt = 200 by decide) (by decide) (by decide) ac_int dX0_init_47 ?_
  refine a_putRI Y pr_X0_28 (by decide) dX0_init_49 ?_
  refine a_aload_n Y 0 rfl dX0_init_52 ?_
  refine a_sipush Y 200 dX0_init_53 (by decide) ?_
  refine a_newaZ Y la_29 (fun _ => rfl) (show (200 : Int32).toInt = 200 by decide) (by decide) (by decide) ac_boolean dX0_init_56 ?_
  refine a_putRZ Y pr_X0_31 (by decide) dX0_init_58 ?_
  refine a_aload_n Y 0 rfl dX0_init_61 ?_
  refine a_iconst Y 0 dX0_init_62 (by decide) ?_
  refine a_puti Y pr_X0_35 (by decide) dX0_init_63 ?_
  refine a_aload_n Y 0 rfl dX0_init_66 ?_
  refine a_bipush Y 40 dX0_init_67 (by decide) ?_
  refine a_newa Y la_30 (fun _ => rfl) (show (40 : Int32).toInt = 40 by decide) (by decide) (by decide) ac_int dX0_init_69 ?_
  refine a_putRI Y pr_X0_38 (by decide) dX0_init_71 ?_
  refine a_aload_n Y 0 rfl dX0_init_74 ?_
  refine a_bipush Y 8 dX0_init_75 (by decide) ?_
  refine a_newaJ Y la_31 (fun _ => rfl) (show (8 : Int32).toInt = 8 by decide) (by decide) (by decide) ac_long dX0_init_77 ?_
  refine a_putRJ Y pr_X0_41 (by decide) dX0_init_79 ?_
  refine a_aload_n Y 0 rfl dX0_init_82 ?_
  refine a_bipush Y 10 dX0_init_83 (by decide) ?_
  refine a_newa Y la_32 (fun _ => rfl) (show (10 : Int32).toInt = 10 by decide) (by decide) (by decide) ac_int dX0_init_85 ?_
  refine a_putRI Y pr_X0_45 (by decide) dX0_init_87 ?_
  exact a_ret Y q ⟨rfl, rfl⟩ dX0_init_90
abbrev nul_X4 : Nat → Nat → Bool := nu (nu (nu (nu (nu (nu (nul_X0) 0 2) 33 2) 33 4) 33 6) 33 0) 33 1
abbrev mem_X4 : Mem := ul (ul (ui (ui (ui (ui (ui (ui (mem_X0) 33 3 0) 33 5 0) 33 7 0) 33 8 0) 33 9 0) 33 10 0) 33 11 0) 33 12 0
set_option maxHeartbeats 4000000 in
set_option maxRecDepth 20000 in
theorem ci_X4 (base : Nat) : CtrI base yX4_init cX4_init 3 { frames := 1, cells := 3, slots := 336, locals := 38 } [.ref (base + 33), .ref (base + 1), .ref (base + 14)] (nu (nul_X0) 0 2) (mem_X0) 34 nul_X4 mem_X4 37 := by
  refine ctrI_of (L := [(0, .ref (base + 33)), (1, .ref (base + 1)), (2, .ref (base + 14))]) (by decide) rfl (Nat.le_of_ble_eq_true rfl) rfl ?_
  intro Γ Y q
  have Y : gY Γ cX4_init RX4 _ 3 base true := Y
  refine a_aload_n Y 0 rfl dX4_init_0 ?_
  refine a_obj Y lo_X4 oi_in oi_co (by decide) dX4_init_1 ?_
  refine a_aload_n Y 0 rfl dX4_init_4 ?_
  refine a_bipush Y 40 dX4_init_5 (by decide) ?_
  refine a_newa Y la_34 (fun _ => rfl) (show (40 : Int32).toInt = 40 by decide) (by decide) (by decide) ac_int dX4_init_7 ?_
  refine a_putRI Y pr_X4_9 (by decide) dX4_init_9 ?_
  refine a_aload_n Y 0 rfl dX4_init_12 ?_
  refine a_iconst Y 0 dX4_init_13 (by decide) ?_
  refine a_puti Y pr_X4_15 (by decide) dX4_init_14 ?_
  refine a_aload_n Y 0 rfl dX4_init_17 ?_
  refine a_bipush Y 40 dX4_init_18 (by decide) ?_
  refine a_newa Y la_35 (fun _ => rfl) (show (40 : Int32).toInt = 40 by decide) (by decide) (by decide) ac_int dX4_init_20 ?_
  refine a_putRI Y pr_X4_19 (by decide) dX4_init_22 ?_
  refine a_aload_n Y 0 rfl dX4_init_25 ?_
  refine a_iconst Y 0 dX4_init_26 (by decide) ?_
  refine a_puti Y pr_X4_22 (by decide) dX4_init_27 ?_
  refine a_aload_n Y 0 rfl dX4_init_30 ?_
  refine a_sipush Y 256 dX4_init_31 (by decide) ?_
  refine a_newa Y la_36 (fun _ => rfl) (show (256 : Int32).toInt = 256 by decide) (by decide) (by decide) ac_int dX4_init_34 ?_
  refine a_putRI Y pr_X4_25 (by decide) dX4_init_36 ?_
  refine a_aload_n Y 0 rfl dX4_init_39 ?_
  refine a_iconst Y 0 dX4_init_40 (by decide) ?_
  refine a_puti Y pr_X4_28 (by decide) dX4_init_41 ?_
  refine a_aload_n Y 0 rfl dX4_init_44 ?_
  refine a_iconst Y 0 dX4_init_45 (by decide) ?_
  refine a_puti Y pr_X4_31 (by decide) dX4_init_46 ?_
  refine a_aload_n Y 0 rfl dX4_init_49 ?_
  refine a_iconst Y 0 dX4_init_50 (by decide) ?_
  refine a_puti Y pr_X4_34 (by decide) dX4_init_51 ?_
  refine a_aload_n Y 0 rfl dX4_init_54 ?_
  refine a_iconst Y 0 dX4_init_55 (by decide) ?_
  refine a_puti Y pr_X4_37 (by decide) dX4_init_56 ?_
  refine a_aload_n Y 0 rfl dX4_init_59 ?_
  refine a_lconst Y 0 dX4_init_60 (by decide) ?_
  refine a_putl Y pr_X4_40 (by decide) dX4_init_61 ?_
  refine a_aload_n Y 0 rfl dX4_init_64 ?_
  refine a_lconst Y 0 dX4_init_65 (by decide) ?_
  refine a_putl Y pr_X4_44 (by decide) dX4_init_66 ?_
  refine a_aload_n Y 0 rfl dX4_init_69 ?_
  refine a_aload_n Y 1 rfl dX4_init_70 ?_
  refine a_putRO Y pr_X4_47 (by decide) dX4_init_71 ?_
  refine a_aload_n Y 0 rfl dX4_init_74 ?_
  refine a_aload_n Y 2 rfl dX4_init_75 ?_
  refine a_putRO Y pr_X4_51 (by decide) dX4_init_76 ?_
  exact a_ret Y q ⟨rfl, rfl⟩ dX4_init_79
abbrev nul_X1 : Nat → Nat → Bool := nu (nu (nu (nu (nu (nul_X4) 0 3) 37 2) 37 3) 37 0) 37 1
abbrev mem_X1 : Mem := ui (ui (ul (mem_X4) 37 4 0) 37 5 0) 37 6 8
set_option maxHeartbeats 4000000 in
set_option maxRecDepth 20000 in
theorem ci_X1 (base : Nat) : CtrI base yX1_init cX1_init 3 { frames := 1, cells := 2, slots := 12542, locals := 38 } [.ref (base + 37), .ref (base + 1), .ref (base + 14)] (nu (nul_X4) 0 3) (mem_X4) 38 nul_X1 mem_X1 40 := by
  refine ctrI_of (L := [(0, .ref (base + 37)), (1, .ref (base + 1)), (2, .ref (base + 14))]) (by decide) rfl (Nat.le_of_ble_eq_true rfl) rfl ?_
  intro Γ Y q
  have Y : gY Γ cX1_init RX1 _ 3 base true := Y
  refine a_aload_n Y 0 rfl dX1_init_0 ?_
  refine a_obj Y lo_X1 oi_in oi_co (by decide) dX1_init_1 ?_
  refine a_aload_n Y 0 rfl dX1_init_4 ?_
  refine a_sipush Y 12350 dX1_init_5 (by decide) ?_
  refine a_newa Y la_38 (fun _ => rfl) (show (12350 : Int32).toInt = 12350 by decide) (by decide) (by decide) ac_int dX1_init_8 ?_
  refine a_putRI Y pr_X1_11 (by decide) dX1_init_10 ?_
  refine a_aload_n Y 0 rfl dX1_init_13 ?_
  refine a_sipush Y 192 dX1_init_14 (by decide) ?_
  refine a_newa Y la_39 (fun _ => rfl) (show (192 : Int32).toInt = 192 by decide) (by decide) (by decide) ac_int dX1_init_17 ?_
  refine a_putRI Y pr_X1_15 (by decide) dX1_init_19 ?_
  refine a_aload_n Y 0 rfl dX1_init_22 ?_
  refine a_lconst Y 0 dX1_init_23 (by decide) ?_
  refine a_putl Y pr_X1_18 (by decide) dX1_init_24 ?_
  refine a_aload_n Y 0 rfl dX1_init_27 ?_
  refine a_iconst Y 0 dX1_init_28 (by decide) ?_
  refine a_puti Y pr_X1_22 (by decide) dX1_init_29 ?_
  refine a_aload_n Y 0 rfl dX1_init_32 ?_
  refine a_bipush Y 8 dX1_init_33 (by decide) ?_
  refine a_puti Y pr_X1_26 (by decide) dX1_init_35 ?_
  refine a_aload_n Y 0 rfl dX1_init_38 ?_
  refine a_aload_n Y 1 rfl dX1_init_39 ?_
  refine a_putRO Y pr_X1_29 (by decide) dX1_init_40 ?_
  refine a_aload_n Y 0 rfl dX1_init_43 ?_
  refine a_aload_n Y 2 rfl dX1_init_44 ?_
  refine a_putRO Y pr_X1_33 (by decide) dX1_init_45 ?_
  exact a_ret Y q ⟨rfl, rfl⟩ dX1_init_48
abbrev nul_X3 : Nat → Nat → Bool := nu (nu (nu (nu (nu (nu (nul_X1) 0 4) 40 0) 40 1) 40 2) 40 3) 40 4
abbrev mem_X3 : Mem := ui (mem_X1) 40 5 0
set_option maxHeartbeats 4000000 in
set_option maxRecDepth 20000 in
theorem ci_X3 (base : Nat) : CtrI base yX3_init cX3_init 1 { frames := 1, cells := 5, slots := 336, locals := 38 } [.ref (base + 40)] (nu (nul_X1) 0 4) (mem_X1) 41 nul_X3 mem_X3 46 := by
  refine ctrI_of (L := [(0, .ref (base + 40))]) (by decide) rfl (Nat.le_of_ble_eq_true rfl) rfl ?_
  intro Γ Y q
  have Y : gY Γ cX3_init RX3 _ 1 base true := Y
  refine a_aload_n Y 0 rfl dX3_init_0 ?_
  refine a_obj Y lo_X3 oi_in oi_co (by decide) dX3_init_1 ?_
  refine a_aload_n Y 0 rfl dX3_init_4 ?_
  refine a_bipush Y 12 dX3_init_5 (by decide) ?_
  refine a_newa Y la_41 (fun _ => rfl) (show (12 : Int32).toInt = 12 by decide) (by decide) (by decide) ac_int dX3_init_7 ?_
  refine a_putRI Y pr_X3_9 (by decide) dX3_init_9 ?_
  refine a_aload_n Y 0 rfl dX3_init_12 ?_
  refine a_bipush Y 12 dX3_init_13 (by decide) ?_
  refine a_newa Y la_42 (fun _ => rfl) (show (12 : Int32).toInt = 12 by decide) (by decide) (by decide) ac_int dX3_init_15 ?_
  refine a_putRI Y pr_X3_15 (by decide) dX3_init_17 ?_
  refine a_aload_n Y 0 rfl dX3_init_20 ?_
  refine a_bipush Y 12 dX3_init_21 (by decide) ?_
  refine a_newa Y la_43 (fun _ => rfl) (show (12 : Int32).toInt = 12 by decide) (by decide) (by decide) ac_int dX3_init_23 ?_
  refine a_putRI Y pr_X3_18 (by decide) dX3_init_25 ?_
  refine a_aload_n Y 0 rfl dX3_init_28 ?_
  refine a_bipush Y 12 dX3_init_29 (by decide) ?_
  refine a_newa Y la_44 (fun _ => rfl) (show (12 : Int32).toInt = 12 by decide) (by decide) (by decide) ac_int dX3_init_31 ?_
  refine a_putRI Y pr_X3_21 (by decide) dX3_init_33 ?_
  refine a_aload_n Y 0 rfl dX3_init_36 ?_
  refine a_sipush Y 288 dX3_init_37 (by decide) ?_
  refine a_newa Y la_45 (fun _ => rfl) (show (288 : Int32).toInt = 288 by decide) (by decide) (by decide) ac_int dX3_init_40 ?_
  refine a_putRI Y pr_X3_24 (by decide) dX3_init_42 ?_
  refine a_aload_n Y 0 rfl dX3_init_45 ?_
  refine a_iconst Y 0 dX3_init_46 (by decide) ?_
  refine a_puti Y pr_X3_27 (by decide) dX3_init_47 ?_
  exact a_ret Y q ⟨rfl, rfl⟩ dX3_init_50
abbrev nul_X6 : Nat → Nat → Bool := nu (nu (nul_X3) 0 5) 0 6
abbrev mem_X6 : Mem := ui (mem_X3) 0 7 0
set_option maxHeartbeats 4000000 in
set_option maxRecDepth 20000 in
theorem ci_X6 (base : Nat) : CtrI base yX6_init cX6_init 1 { frames := 2, cells := 46, slots := 15693, locals := 76 } [.ref (base + 0)] (nl0) (mZ) 1 nul_X6 mem_X6 47 := by
  refine ctrI_of (L := [(0, .ref (base + 0))]) (by decide) rfl (Nat.le_of_ble_eq_true rfl) rfl ?_
  intro Γ Y q
  have Y : gY Γ cX6_init RX6 _ 1 base true := Y
  refine a_aload_n Y 0 rfl dX6_init_0 ?_
  refine a_obj Y lo_X6 oi_in oi_co (by decide) dX6_init_1 ?_
  refine a_aload_n Y 0 rfl dX6_init_4 ?_
  refine a_new Y tyX5 (ci := 5) rfl rfl inG_X5 tyX5_ok cl_X6_7 is_X5 it_X5 (by
    intro j hj
    match j, hj with
    | 0, _ => exact Eq.symm (Eq.trans (vpm _ _ 0 _ rfl) rfl)
    | 1, _ => exact Eq.symm (Eq.trans (vpm _ _ 1 _ rfl) rfl)
    | 2, _ => exact Eq.symm (Eq.trans (vpm _ _ 2 _ rfl) rfl)
    | 3, _ => exact Eq.symm (Eq.trans (vpm _ _ 3 _ rfl) rfl)
    | 4, _ => exact Eq.symm (Eq.trans (vpm _ _ 4 _ rfl) rfl)
    | 5, _ => exact Eq.symm (Eq.trans (vpm _ _ 5 _ rfl) rfl)
    | 6, _ => exact Eq.symm (Eq.trans (vpm _ _ 6 _ rfl) rfl)
    | 7, _ => exact Eq.symm (Eq.trans (vpm _ _ 7 _ rfl) rfl)
    | 8, _ => exact Eq.symm (Eq.trans (vpm _ _ 8 _ rfl) rfl)
    | 9, _ => exact Eq.symm (Eq.trans (vpm _ _ 9 _ rfl) rfl)
    | 10, _ => exact Eq.symm (Eq.trans (vpm _ _ 10 _ rfl) rfl)
    | 11, _ => exact Eq.symm (Eq.trans (vpm _ _ 11 _ rfl) rfl)
    | 12, _ => exact Eq.symm (Eq.trans (vpm _ _ 12 _ rfl) rfl)
    | 13, _ => exact Eq.symm (Eq.trans (vpm _ _ 13 _ rfl) rfl)
    | 14, _ => exact Eq.symm (Eq.trans (vpm _ _ 14 _ rfl) rfl)
    | 15, _ => exact Eq.symm (Eq.trans (vpm _ _ 15 _ rfl) rfl)
    | j + 16, h => exact absurd h (by omega)) (by decide) dX6_init_5 ?_
  refine a_dup Y dX6_init_8 rfl ?_
  refine a_init Y li_X6_9 ii_X5 rfl iy_X5 (ci_X5 base) rfl (by decide) (by decide) (Nat.le_of_ble_eq_true rfl) rfl dX6_init_9 ?_
  refine a_putRO Y pr_X6_10 (by decide) dX6_init_12 ?_
  refine a_aload_n Y 0 rfl dX6_init_15 ?_
  refine a_new Y tyX2 (ci := 2) rfl rfl inG_X2 tyX2_ok cl_X6_16 is_X2 it_X2 (by
    intro j hj
    match j, hj with
    | 0, _ => exact Eq.symm (Eq.trans (vpm _ _ 0 _ rfl) rfl)
    | 1, _ => exact Eq.symm (Eq.trans (vpm _ _ 1 _ rfl) rfl)
    | 2, _ => exact Eq.symm (Eq.trans (vpm _ _ 2 _ rfl) rfl)
    | 3, _ => exact Eq.symm (Eq.trans (vpm _ _ 3 _ rfl) rfl)
    | 4, _ => exact Eq.symm (Eq.trans (vpm _ _ 4 _ rfl) rfl)
    | 5, _ => exact Eq.symm (Eq.trans (vpm _ _ 5 _ rfl) rfl)
    | 6, _ => exact Eq.symm (Eq.trans (vpm _ _ 6 _ rfl) rfl)
    | 7, _ => exact Eq.symm (Eq.trans (vpm _ _ 7 _ rfl) rfl)
    | 8, _ => exact Eq.symm (Eq.trans (vpm _ _ 8 _ rfl) rfl)
    | 9, _ => exact Eq.symm (Eq.trans (vpm _ _ 9 _ rfl) rfl)
    | 10, _ => exact Eq.symm (Eq.trans (vpm _ _ 10 _ rfl) rfl)
    | 11, _ => exact Eq.symm (Eq.trans (vpm _ _ 11 _ rfl) rfl)
    | 12, _ => exact Eq.symm (Eq.trans (vpm _ _ 12 _ rfl) rfl)
    | j + 13, h => exact absurd h (by omega)) (by decide) dX6_init_16 ?_
  refine a_dup Y dX6_init_19 rfl ?_
  refine a_init Y li_X6_18 ii_X2 rfl iy_X2 (ci_X2 base) rfl (by decide) (by decide) (Nat.le_of_ble_eq_true rfl) rfl dX6_init_20 ?_
  refine a_putRO Y pr_X6_19 (by decide) dX6_init_23 ?_
  refine a_aload_n Y 0 rfl dX6_init_26 ?_
  refine a_new Y tyX0 (ci := 0) rfl rfl inG_X0 tyX0_ok cl_X6_23 is_X0 it_X0 (by
    intro j hj
    match j, hj with
    | 0, _ => exact Eq.symm (Eq.trans (vpm _ _ 0 _ rfl) rfl)
    | 1, _ => exact Eq.symm (Eq.trans (vpm _ _ 1 _ rfl) rfl)
    | 2, _ => exact Eq.symm (Eq.trans (vpm _ _ 2 _ rfl) rfl)
    | 3, _ => exact Eq.symm (Eq.trans (vpm _ _ 3 _ rfl) rfl)
    | 4, _ => exact Eq.symm (Eq.trans (vpm _ _ 4 _ rfl) rfl)
    | 5, _ => exact Eq.symm (Eq.trans (vpm _ _ 5 _ rfl) rfl)
    | 6, _ => exact Eq.symm (Eq.trans (vpm _ _ 6 _ rfl) rfl)
    | 7, _ => exact Eq.symm (Eq.trans (vpm _ _ 7 _ rfl) rfl)
    | 8, _ => exact Eq.symm (Eq.trans (vpm _ _ 8 _ rfl) rfl)
    | 9, _ => exact Eq.symm (Eq.trans (vpm _ _ 9 _ rfl) rfl)
    | 10, _ => exact Eq.symm (Eq.trans (vpm _ _ 10 _ rfl) rfl)
    | j + 11, h => exact absurd h (by omega)) (by decide) dX6_init_27 ?_
  refine a_dup Y dX6_init_30 rfl ?_
  refine a_init Y li_X6_25 ii_X0 rfl iy_X0 (ci_X0 base) rfl (by decide) (by decide) (Nat.le_of_ble_eq_true rfl) rfl dX6_init_31 ?_
  refine a_putRO Y pr_X6_26 (by decide) dX6_init_34 ?_
  refine a_aload_n Y 0 rfl dX6_init_37 ?_
  refine a_new Y tyX4 (ci := 4) rfl rfl inG_X4 tyX4_ok cl_X6_30 is_X4 it_X4 (by
    intro j hj
    match j, hj with
    | 0, _ => exact Eq.symm (Eq.trans (vpm _ _ 0 _ rfl) rfl)
    | 1, _ => exact Eq.symm (Eq.trans (vpm _ _ 1 _ rfl) rfl)
    | 2, _ => exact Eq.symm (Eq.trans (vpm _ _ 2 _ rfl) rfl)
    | 3, _ => exact Eq.symm (Eq.trans (vpm _ _ 3 _ rfl) rfl)
    | 4, _ => exact Eq.symm (Eq.trans (vpm _ _ 4 _ rfl) rfl)
    | 5, _ => exact Eq.symm (Eq.trans (vpm _ _ 5 _ rfl) rfl)
    | 6, _ => exact Eq.symm (Eq.trans (vpm _ _ 6 _ rfl) rfl)
    | 7, _ => exact Eq.symm (Eq.trans (vpm _ _ 7 _ rfl) rfl)
    | 8, _ => exact Eq.symm (Eq.trans (vpm _ _ 8 _ rfl) rfl)
    | 9, _ => exact Eq.symm (Eq.trans (vpm _ _ 9 _ rfl) rfl)
    | 10, _ => exact Eq.symm (Eq.trans (vpm _ _ 10 _ rfl) rfl)
    | 11, _ => exact Eq.symm (Eq.trans (vpm _ _ 11 _ rfl) rfl)
    | 12, _ => exact Eq.symm (Eq.trans (vpm _ _ 12 _ rfl) rfl)
    | j + 13, h => exact absurd h (by omega)) (by decide) dX6_init_38 ?_
  refine a_dup Y dX6_init_41 rfl ?_
  refine a_aload_n Y 0 rfl dX6_init_42 ?_
  refine a_getr Y (r := 1) f_X6_10 (by decide) rfl dX6_init_43 ?_
  refine a_aload_n Y 0 rfl dX6_init_46 ?_
  refine a_getr Y (r := 14) f_X6_19 (by decide) rfl dX6_init_47 ?_
  refine a_init Y li_X6_32 ii_X4 rfl iy_X4 (ci_X4 base) rfl (by decide) (by decide) (Nat.le_of_ble_eq_true rfl) rfl dX6_init_50 ?_
  refine a_putRO Y pr_X6_35 (by decide) dX6_init_53 ?_
  refine a_aload_n Y 0 rfl dX6_init_56 ?_
  refine a_new Y tyX1 (ci := 1) rfl rfl inG_X1 tyX1_ok cl_X6_39 is_X1 it_X1 (by
    intro j hj
    match j, hj with
    | 0, _ => exact Eq.symm (Eq.trans (vpm _ _ 0 _ rfl) rfl)
    | 1, _ => exact Eq.symm (Eq.trans (vpm _ _ 1 _ rfl) rfl)
    | 2, _ => exact Eq.symm (Eq.trans (vpm _ _ 2 _ rfl) rfl)
    | 3, _ => exact Eq.symm (Eq.trans (vpm _ _ 3 _ rfl) rfl)
    | 4, _ => exact Eq.symm (Eq.trans (vpm _ _ 4 _ rfl) rfl)
    | 5, _ => exact Eq.symm (Eq.trans (vpm _ _ 5 _ rfl) rfl)
    | 6, _ => exact Eq.symm (Eq.trans (vpm _ _ 6 _ rfl) rfl)
    | j + 7, h => exact absurd h (by omega)) (by decide) dX6_init_57 ?_
  refine a_dup Y dX6_init_60 rfl ?_
  refine a_aload_n Y 0 rfl dX6_init_61 ?_
  refine a_getr Y (r := 1) f_X6_10 (by decide) rfl dX6_init_62 ?_
  refine a_aload_n Y 0 rfl dX6_init_65 ?_
  refine a_getr Y (r := 14) f_X6_19 (by decide) rfl dX6_init_66 ?_
  refine a_init Y li_X6_41 ii_X1 rfl iy_X1 (ci_X1 base) rfl (by decide) (by decide) (Nat.le_of_ble_eq_true rfl) rfl dX6_init_69 ?_
  refine a_putRO Y pr_X6_42 (by decide) dX6_init_72 ?_
  refine a_aload_n Y 0 rfl dX6_init_75 ?_
  refine a_new Y tyX3 (ci := 3) rfl rfl inG_X3 tyX3_ok cl_X6_46 is_X3 it_X3 (by
    intro j hj
    match j, hj with
    | 0, _ => exact Eq.symm (Eq.trans (vpm _ _ 0 _ rfl) rfl)
    | 1, _ => exact Eq.symm (Eq.trans (vpm _ _ 1 _ rfl) rfl)
    | 2, _ => exact Eq.symm (Eq.trans (vpm _ _ 2 _ rfl) rfl)
    | 3, _ => exact Eq.symm (Eq.trans (vpm _ _ 3 _ rfl) rfl)
    | 4, _ => exact Eq.symm (Eq.trans (vpm _ _ 4 _ rfl) rfl)
    | 5, _ => exact Eq.symm (Eq.trans (vpm _ _ 5 _ rfl) rfl)
    | j + 6, h => exact absurd h (by omega)) (by decide) dX6_init_76 ?_
  refine a_dup Y dX6_init_79 rfl ?_
  refine a_init Y li_X6_48 ii_X3 rfl iy_X3 (ci_X3 base) rfl (by decide) (by decide) (Nat.le_of_ble_eq_true rfl) rfl dX6_init_80 ?_
  refine a_putRO Y pr_X6_49 (by decide) dX6_init_83 ?_
  refine a_aload_n Y 0 rfl dX6_init_86 ?_
  refine a_bipush Y 24 dX6_init_87 (by decide) ?_
  refine a_newa Y la_46 (fun _ => rfl) (show (24 : Int32).toInt = 24 by decide) (by decide) (by decide) ac_int dX6_init_89 ?_
  refine a_putRI Y pr_X6_53 (by decide) dX6_init_91 ?_
  refine a_aload_n Y 0 rfl dX6_init_94 ?_
  refine a_iconst Y 0 dX6_init_95 (by decide) ?_
  refine a_puti Y pr_X6_57 (by decide) dX6_init_96 ?_
  exact a_ret Y q ⟨rfl, rfl⟩ dX6_init_99
abbrev nul_X7 : Nat → Nat → Bool := nu (nu (nu (nu (nu (nu (nu (nu (nu (nu (nu (nu (nu (nu (nu (nu (nu (nu (nu (nu (nu (nu (nu (nu (nu (nu (nu (nu (nu (nu (nu (nu (nu (nu (nu (nu (nu (nu (nu (nu (nu (nu (nu (nul_X6) 47 0) 47 1) 47 2) 47 3) 47 4) 47 5) 47 6) 47 7) 47 8) 47 9) 47 10) 47 13) 47 15) 47 16) 47 17) 47 18) 47 19) 47 26) 47 27) 47 28) 47 29) 47 30) 47 31) 47 35) 47 36) 47 37) 47 38) 47 39) 47 40) 47 41) 47 42) 47 45) 47 46) 47 47) 47 48) 47 49) 47 50) 47 51) 47 54) 47 55) 47 56) 47 57) 47 58
abbrev mem_X7 : Mem := fillM (ui (ui (ui (ui (mem_X6) 58 0 4) 58 1 6) 58 2 0) 47 24 1) 51 10 1
set_option maxHeartbeats 4000000 in
set_option maxRecDepth 20000 in
theorem ci_X7 (base : Nat) : CtrI base yX7_init cX7_init 2 { frames := 1, cells := 43, slots := 48962, locals := 38 } [.ref (base + 47)] (nul_X6) (mem_X6) 48 nul_X7 mem_X7 91 := by
  refine ctrI_of (L := [(0, .ref (base + 47))]) (by decide) rfl (Nat.le_of_ble_eq_true rfl) rfl ?_
  intro Γ Y q
  have Y : gY Γ cX7_init RX7 _ 2 base true := Y
  refine a_aload_n Y 0 rfl dX7_init_0 ?_
  refine a_obj Y lo_X7 oi_in oi_co (by decide) dX7_init_1 ?_
  refine a_aload_n Y 0 rfl dX7_init_4 ?_
  refine a_bipush Y 40 dX7_init_5 (by decide) ?_
  refine a_newa Y la_48 (fun _ => rfl) (show (40 : Int32).toInt = 40 by decide) (by decide) (by decide) ac_int dX7_init_7 ?_
  refine a_putRI Y pr_X7_7 (by decide) dX7_init_9 ?_
  refine a_aload_n Y 0 rfl dX7_init_12 ?_
  refine a_bipush Y 40 dX7_init_13 (by decide) ?_
  refine a_newa Y la_49 (fun _ => rfl) (show (40 : Int32).toInt = 40 by decide) (by decide) (by decide) ac_int dX7_init_15 ?_
  refine a_putRI Y pr_X7_13 (by decide) dX7_init_17 ?_
  refine a_aload_n Y 0 rfl dX7_init_20 ?_
  refine a_bipush Y 40 dX7_init_21 (by decide) ?_
  refine a_newa Y la_50 (fun _ => rfl) (show (40 : Int32).toInt = 40 by decide) (by decide) (by decide) ac_int dX7_init_23 ?_
  refine a_putRI Y pr_X7_16 (by decide) dX7_init_25 ?_
  refine a_aload_n Y 0 rfl dX7_init_28 ?_
  refine a_bipush Y 10 dX7_init_29 (by decide) ?_
  refine a_newa Y la_51 (fun _ => rfl) (show (10 : Int32).toInt = 10 by decide) (by decide) (by decide) ac_int dX7_init_31 ?_
  refine a_putRI Y pr_X7_19 (by decide) dX7_init_33 ?_
  refine a_aload_n Y 0 rfl dX7_init_36 ?_
  refine a_bipush Y 10 dX7_init_37 (by decide) ?_
  refine a_newa Y la_52 (fun _ => rfl) (show (10 : Int32).toInt = 10 by decide) (by decide) (by decide) ac_int dX7_init_39 ?_
  refine a_putRI Y pr_X7_22 (by decide) dX7_init_41 ?_
  refine a_aload_n Y 0 rfl dX7_init_44 ?_
  refine a_bipush Y 40 dX7_init_45 (by decide) ?_
  refine a_newa Y la_53 (fun _ => rfl) (show (40 : Int32).toInt = 40 by decide) (by decide) (by decide) ac_int dX7_init_47 ?_
  refine a_putRI Y pr_X7_25 (by decide) dX7_init_49 ?_
  refine a_aload_n Y 0 rfl dX7_init_52 ?_
  refine a_bipush Y 40 dX7_init_53 (by decide) ?_
  refine a_newa Y la_54 (fun _ => rfl) (show (40 : Int32).toInt = 40 by decide) (by decide) (by decide) ac_int dX7_init_55 ?_
  refine a_putRI Y pr_X7_28 (by decide) dX7_init_57 ?_
  refine a_aload_n Y 0 rfl dX7_init_60 ?_
  refine a_bipush Y 40 dX7_init_61 (by decide) ?_
  refine a_newa Y la_55 (fun _ => rfl) (show (40 : Int32).toInt = 40 by decide) (by decide) (by decide) ac_int dX7_init_63 ?_
  refine a_putRI Y pr_X7_31 (by decide) dX7_init_65 ?_
  refine a_aload_n Y 0 rfl dX7_init_68 ?_
  refine a_bipush Y 40 dX7_init_69 (by decide) ?_
  refine a_newa Y la_56 (fun _ => rfl) (show (40 : Int32).toInt = 40 by decide) (by decide) (by decide) ac_int dX7_init_71 ?_
  refine a_putRI Y pr_X7_34 (by decide) dX7_init_73 ?_
  refine a_aload_n Y 0 rfl dX7_init_76 ?_
  refine a_bipush Y 40 dX7_init_77 (by decide) ?_
  refine a_newa Y la_57 (fun _ => rfl) (show (40 : Int32).toInt = 40 by decide) (by decide) (by decide) ac_int dX7_init_79 ?_
  refine a_putRI Y pr_X7_37 (by decide) dX7_init_81 ?_
  refine a_aload_n Y 0 rfl dX7_init_84 ?_
  refine a_iconst Y 3 dX7_init_85 (by decide) ?_
  refine a_newa Y la_58 (fun _ => rfl) (show (3 : Int32).toInt = 3 by decide) (by decide) (by decide) ac_int dX7_init_86 ?_
  refine a_dup Y dX7_init_88 rfl ?_
  refine a_iconst Y 0 dX7_init_89 (by decide) ?_
  refine a_iconst Y 4 dX7_init_90 (by decide) ?_
  refine a_iast Y la_58 (by decide) (show (0 : Int32).toInt = 0 by decide) dX7_init_91 (by decide) ?_
  refine a_dup Y dX7_init_92 rfl ?_
  refine a_iconst Y 1 dX7_init_93 (by decide) ?_
  refine a_bipush Y 6 dX7_init_94 (by decide) ?_
  refine a_iast Y la_58 (by decide) (show (1 : Int32).toInt = 1 by decide) dX7_init_96 (by decide) ?_
  refine a_dup Y dX7_init_97 rfl ?_
  refine a_iconst Y 2 dX7_init_98 (by decide) ?_
  refine a_iconst Y 0 dX7_init_99 (by decide) ?_
  refine a_iast Y la_58 (by decide) (show (2 : Int32).toInt = 2 by decide) dX7_init_100 (by decide) ?_
  refine a_putRI Y pr_X7_40 (by decide) dX7_init_101 ?_
  refine a_aload_n Y 0 rfl dX7_init_104 ?_
  refine a_bipush Y 40 dX7_init_105 (by decide) ?_
  refine a_newa Y la_59 (fun _ => rfl) (show (40 : Int32).toInt = 40 by decide) (by decide) (by decide) ac_int dX7_init_107 ?_
  refine a_putRI Y pr_X7_43 (by decide) dX7_init_109 ?_
  refine a_aload_n Y 0 rfl dX7_init_112 ?_
  refine a_bipush Y 60 dX7_init_113 (by decide) ?_
  refine a_newa Y la_60 (fun _ => rfl) (show (60 : Int32).toInt = 60 by decide) (by decide) (by decide) ac_int dX7_init_115 ?_
  refine a_putRI Y pr_X7_46 (by decide) dX7_init_117 ?_
  refine a_aload_n Y 0 rfl dX7_init_120 ?_
  refine a_sipush Y 480 dX7_init_121 (by decide) ?_
  refine a_newa Y la_61 (fun _ => rfl) (show (480 : Int32).toInt = 480 by decide) (by decide) (by decide) ac_int dX7_init_124 ?_
  refine a_putRI Y pr_X7_49 (by decide) dX7_init_126 ?_
  refine a_aload_n Y 0 rfl dX7_init_129 ?_
  refine a_bipush Y 8 dX7_init_130 (by decide) ?_
  refine a_newa Y la_62 (fun _ => rfl) (show (8 : Int32).toInt = 8 by decide) (by decide) (by decide) ac_int dX7_init_132 ?_
  refine a_putRI Y pr_X7_52 (by decide) dX7_init_134 ?_
  refine a_aload_n Y 0 rfl dX7_init_137 ?_
  refine a_bipush Y 8 dX7_init_138 (by decide) ?_
  refine a_newa Y la_63 (fun _ => rfl) (show (8 : Int32).toInt = 8 by decide) (by decide) (by decide) ac_int dX7_init_140 ?_
  refine a_putRI Y pr_X7_55 (by decide) dX7_init_142 ?_
  refine a_aload_n Y 0 rfl dX7_init_145 ?_
  refine a_bipush Y 60 dX7_init_146 (by decide) ?_
  refine a_newa Y la_64 (fun _ => rfl) (show (60 : Int32).toInt = 60 by decide) (by decide) (by decide) ac_int dX7_init_148 ?_
  refine a_putRI Y pr_X7_58 (by decide) dX7_init_150 ?_
  refine a_aload_n Y 0 rfl dX7_init_153 ?_
  refine a_iconst Y 1 dX7_init_154 (by decide) ?_
  refine a_puti Y pr_X7_61 (by decide) dX7_init_155 ?_
  refine a_aload_n Y 0 rfl dX7_init_158 ?_
  refine a_bipush Y 9 dX7_init_159 (by decide) ?_
  refine a_newa Y la_65 (fun _ => rfl) (show (9 : Int32).toInt = 9 by decide) (by decide) (by decide) ac_int dX7_init_161 ?_
  refine a_putRI Y pr_X7_65 (by decide) dX7_init_163 ?_
  refine a_aload_n Y 0 rfl dX7_init_166 ?_
  refine a_bipush Y 9 dX7_init_167 (by decide) ?_
  refine a_newa Y la_66 (fun _ => rfl) (show (9 : Int32).toInt = 9 by decide) (by decide) (by decide) ac_int dX7_init_169 ?_
  refine a_putRI Y pr_X7_68 (by decide) dX7_init_171 ?_
  refine a_aload_n Y 0 rfl dX7_init_174 ?_
  refine a_sipush Y 500 dX7_init_175 (by decide) ?_
  refine a_newa Y la_67 (fun _ => rfl) (show (500 : Int32).toInt = 500 by decide) (by decide) (by decide) ac_int dX7_init_178 ?_
  refine a_putRI Y pr_X7_71 (by decide) dX7_init_180 ?_
  refine a_aload_n Y 0 rfl dX7_init_183 ?_
  refine a_sipush Y 500 dX7_init_184 (by decide) ?_
  refine a_newa Y la_68 (fun _ => rfl) (show (500 : Int32).toInt = 500 by decide) (by decide) (by decide) ac_int dX7_init_187 ?_
  refine a_putRI Y pr_X7_74 (by decide) dX7_init_189 ?_
  refine a_aload_n Y 0 rfl dX7_init_192 ?_
  refine a_bipush Y 40 dX7_init_193 (by decide) ?_
  refine a_newa Y la_69 (fun _ => rfl) (show (40 : Int32).toInt = 40 by decide) (by decide) (by decide) ac_int dX7_init_195 ?_
  refine a_putRI Y pr_X7_77 (by decide) dX7_init_197 ?_
  refine a_aload_n Y 0 rfl dX7_init_200 ?_
  refine a_bipush Y 40 dX7_init_201 (by decide) ?_
  refine a_newa Y la_70 (fun _ => rfl) (show (40 : Int32).toInt = 40 by decide) (by decide) (by decide) ac_int dX7_init_203 ?_
  refine a_putRI Y pr_X7_80 (by decide) dX7_init_205 ?_
  refine a_aload_n Y 0 rfl dX7_init_208 ?_
  refine a_sipush Y 5000 dX7_init_209 (by decide) ?_
  refine a_newa Y la_71 (fun _ => rfl) (show (5000 : Int32).toInt = 5000 by decide) (by decide) (by decide) ac_int dX7_init_212 ?_
  refine a_putRI Y pr_X7_83 (by decide) dX7_init_214 ?_
  refine a_aload_n Y 0 rfl dX7_init_217 ?_
  refine a_sipush Y 19375 dX7_init_218 (by decide) ?_
  refine a_newa Y la_72 (fun _ => rfl) (show (19375 : Int32).toInt = 19375 by decide) (by decide) (by decide) ac_int dX7_init_221 ?_
  refine a_putRI Y pr_X7_86 (by decide) dX7_init_223 ?_
  refine a_aload_n Y 0 rfl dX7_init_226 ?_
  refine a_sipush Y 19375 dX7_init_227 (by decide) ?_
  refine a_newa Y la_73 (fun _ => rfl) (show (19375 : Int32).toInt = 19375 by decide) (by decide) (by decide) ac_int dX7_init_230 ?_
  refine a_putRI Y pr_X7_89 (by decide) dX7_init_232 ?_
  refine a_aload_n Y 0 rfl dX7_init_235 ?_
  refine a_sipush Y 625 dX7_init_236 (by decide) ?_
  refine a_newa Y la_74 (fun _ => rfl) (show (625 : Int32).toInt = 625 by decide) (by decide) (by decide) ac_int dX7_init_239 ?_
  refine a_putRI Y pr_X7_92 (by decide) dX7_init_241 ?_
  refine a_aload_n Y 0 rfl dX7_init_244 ?_
  refine a_sipush Y 625 dX7_init_245 (by decide) ?_
  refine a_newa Y la_75 (fun _ => rfl) (show (625 : Int32).toInt = 625 by decide) (by decide) (by decide) ac_int dX7_init_248 ?_
  refine a_putRI Y pr_X7_95 (by decide) dX7_init_250 ?_
  refine a_aload_n Y 0 rfl dX7_init_253 ?_
  refine a_sipush Y 625 dX7_init_254 (by decide) ?_
  refine a_newa Y la_76 (fun _ => rfl) (show (625 : Int32).toInt = 625 by decide) (by decide) (by decide) ac_int dX7_init_257 ?_
  refine a_putRI Y pr_X7_98 (by decide) dX7_init_259 ?_
  refine a_aload_n Y 0 rfl dX7_init_262 ?_
  refine a_bipush Y 24 dX7_init_263 (by decide) ?_
  refine a_newa Y la_77 (fun _ => rfl) (show (24 : Int32).toInt = 24 by decide) (by decide) (by decide) ac_int dX7_init_265 ?_
  refine a_putRI Y pr_X7_101 (by decide) dX7_init_267 ?_
  refine a_aload_n Y 0 rfl dX7_init_270 ?_
  refine a_bipush Y 24 dX7_init_271 (by decide) ?_
  refine a_newa Y la_78 (fun _ => rfl) (show (24 : Int32).toInt = 24 by decide) (by decide) (by decide) ac_int dX7_init_273 ?_
  refine a_putRI Y pr_X7_104 (by decide) dX7_init_275 ?_
  refine a_aload_n Y 0 rfl dX7_init_278 ?_
  refine a_bipush Y 8 dX7_init_279 (by decide) ?_
  refine a_newa Y la_79 (fun _ => rfl) (show (8 : Int32).toInt = 8 by decide) (by decide) (by decide) ac_int dX7_init_281 ?_
  refine a_putRI Y pr_X7_107 (by decide) dX7_init_283 ?_
  refine a_aload_n Y 0 rfl dX7_init_286 ?_
  refine a_bipush Y 8 dX7_init_287 (by decide) ?_
  refine a_newa Y la_80 (fun _ => rfl) (show (8 : Int32).toInt = 8 by decide) (by decide) (by decide) ac_int dX7_init_289 ?_
  refine a_putRI Y pr_X7_110 (by decide) dX7_init_291 ?_
  refine a_aload_n Y 0 rfl dX7_init_294 ?_
  refine a_sipush Y 200 dX7_init_295 (by decide) ?_
  refine a_newa Y la_81 (fun _ => rfl) (show (200 : Int32).toInt = 200 by decide) (by decide) (by decide) ac_int dX7_init_298 ?_
  refine a_putRI Y pr_X7_113 (by decide) dX7_init_300 ?_
  refine a_aload_n Y 0 rfl dX7_init_303 ?_
  refine a_sipush Y 200 dX7_init_304 (by decide) ?_
  refine a_newa Y la_82 (fun _ => rfl) (show (200 : Int32).toInt = 200 by decide) (by decide) (by decide) ac_int dX7_init_307 ?_
  refine a_putRI Y pr_X7_116 (by decide) dX7_init_309 ?_
  refine a_aload_n Y 0 rfl dX7_init_312 ?_
  refine a_sipush Y 200 dX7_init_313 (by decide) ?_
  refine a_newa Y la_83 (fun _ => rfl) (show (200 : Int32).toInt = 200 by decide) (by decide) (by decide) ac_int dX7_init_316 ?_
  refine a_putRI Y pr_X7_119 (by decide) dX7_init_318 ?_
  refine a_aload_n Y 0 rfl dX7_init_321 ?_
  refine a_sipush Y 200 dX7_init_322 (by decide) ?_
  refine a_newaZ Y la_84 (fun _ => rfl) (show (200 : Int32).toInt = 200 by decide) (by decide) (by decide) ac_boolean dX7_init_325 ?_
  refine a_putRZ Y pr_X7_122 (by decide) dX7_init_327 ?_
  refine a_aload_n Y 0 rfl dX7_init_330 ?_
  refine a_bipush Y 40 dX7_init_331 (by decide) ?_
  refine a_newaZ Y la_85 (fun _ => rfl) (show (40 : Int32).toInt = 40 by decide) (by decide) (by decide) ac_boolean dX7_init_333 ?_
  refine a_putRZ Y pr_X7_126 (by decide) dX7_init_335 ?_
  refine a_aload_n Y 0 rfl dX7_init_338 ?_
  refine a_bipush Y 12 dX7_init_339 (by decide) ?_
  refine a_newa Y la_86 (fun _ => rfl) (show (12 : Int32).toInt = 12 by decide) (by decide) (by decide) ac_int dX7_init_341 ?_
  refine a_putRI Y pr_X7_129 (by decide) dX7_init_343 ?_
  refine a_aload_n Y 0 rfl dX7_init_346 ?_
  refine a_bipush Y 12 dX7_init_347 (by decide) ?_
  refine a_newa Y la_87 (fun _ => rfl) (show (12 : Int32).toInt = 12 by decide) (by decide) (by decide) ac_int dX7_init_349 ?_
  refine a_putRI Y pr_X7_132 (by decide) dX7_init_351 ?_
  refine a_aload_n Y 0 rfl dX7_init_354 ?_
  refine a_bipush Y 12 dX7_init_355 (by decide) ?_
  refine a_newa Y la_88 (fun _ => rfl) (show (12 : Int32).toInt = 12 by decide) (by decide) (by decide) ac_int dX7_init_357 ?_
  refine a_putRI Y pr_X7_135 (by decide) dX7_init_359 ?_
  refine a_aload_n Y 0 rfl dX7_init_362 ?_
  refine a_bipush Y 12 dX7_init_363 (by decide) ?_
  refine a_newa Y la_89 (fun _ => rfl) (show (12 : Int32).toInt = 12 by decide) (by decide) (by decide) ac_int dX7_init_365 ?_
  refine a_putRI Y pr_X7_138 (by decide) dX7_init_367 ?_
  refine a_aload_n Y 0 rfl dX7_init_370 ?_
  refine a_sipush Y 288 dX7_init_371 (by decide) ?_
  refine a_newa Y la_90 (fun _ => rfl) (show (288 : Int32).toInt = 288 by decide) (by decide) (by decide) ac_int dX7_init_374 ?_
  refine a_putRI Y pr_X7_141 (by decide) dX7_init_376 ?_
  refine a_iconst Y 0 dX7_init_379 (by decide) ?_
  refine a_istore_n Y (i := 1) [(1, .int 0), (0, .ref (base + 47))] dX7_init_380 rfl (by decide) rfl ?_
  have lp : ∀ (r i : Nat), i + r = 10 → ∀ y : Int32, y.toInt = i → GA Γ (nu (nu (nu (nu (nu (nu (nu (nu (nu (nu (nu (nu (nu (nu (nu (nu (nu (nu (nu (nu (nu (nu (nu (nu (nu (nu (nu (nu (nu (nu (nu (nu (nu (nu (nu (nu (nu (nu (nu (nu (nu (nu (nu (nul_X6) 47 0) 47 1) 47 2) 47 3) 47 4) 47 5) 47 6) 47 7) 47 8) 47 9) 47 10) 47 13) 47 15) 47 16) 47 17) 47 18) 47 19) 47 26) 47 27) 47 28) 47 29) 47 30) 47 31) 47 35) 47 36) 47 37) 47 38) 47 39) 47 40) 47 41) 47 42) 47 45) 47 46) 47 47) 47 48) 47 49) 47 50) 47 51) 47 54) 47 55) 47 56) 47 57) 47 58) (fillM (ui (ui (ui (ui (mem_X6) 58 0 4) 58 1 6) 58 2 0) 47 24 1) 51 i 1) 91 43 48962 381 [(1, .int y), (0, .ref (base + 47))] [] := by
    intro r
    induction r with
    | zero =>
      intro i hi y hyi
      refine a_iload_n Y 0 rfl dX7_init_381 ?_
      refine a_bipush Y 10 dX7_init_382 (by decide) ?_
      refine a_icmp_ge Y hyi (show (10 : Int32).toInt = 10 by decide) (tgt := 400) dX7_init_384 (by decide) (fun _ => ?_) (fun c => by omega)
      rw [show i = 10 by omega]
      exact a_ret Y q ⟨rfl, rfl⟩ dX7_init_400
    | succ r ih =>
      intro i hi y hyi
      refine a_iload_n Y 0 rfl dX7_init_381 ?_
      refine a_bipush Y 10 dX7_init_382 (by decide) ?_
      refine a_icmp_ge Y hyi (show (10 : Int32).toInt = 10 by decide) (tgt := 400) dX7_init_384 (by decide) (fun c => by omega) (fun _ => ?_)
      refine a_aload_n Y 1 rfl dX7_init_387 ?_
      refine a_getr Y (r := 51) f_X7_19 (by decide) rfl dX7_init_388 ?_
      refine a_iload_n Y 0 rfl dX7_init_391 ?_
      refine a_iconst Y 1 dX7_init_392 (by decide) ?_
      refine a_iast Y la_51 (by decide) hyi dX7_init_393 (by omega) ?_
      rw [show ((i : Int)).toNat = i from rfl, fillM_s]
      refine a_iinc Y 0 (fun z => [(1, .int z), (0, .ref (base + 47))]) dX7_init_394 rfl (by decide) (fun _ => rfl) (fun z ez => ?_)
      have tz : z.toInt = (i : Int) + 1 := add_nw ez hyi (show (Int32.ofInt 1).toInt = 1 by decide) (by omega)
      refine a_goto Y (tgt := 381) dX7_init_397 (by decide) ?_
      exact ih (i + 1) (by omega) z (by omega)
  have := lp 10 0 (by omega) 0 (by decide)
  rw [fillM_0] at this
  exact this
end
