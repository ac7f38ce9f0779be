section
set_option maxRecDepth 16384
theorem dqw_cJ13_bitCount_95d88_0 : dqLF cJ13_bitCount_95d88 0 [30, 30, 4, 125, 20, 1, 58, 127, 101, 63, 30, 20, 1, 60, 127, 30, 5, 125, 20, 1, 60, 127, 97, 63] := by decide +kernel
theorem dJ13_bitCount_95d88_0 : decode cJ13_bitCount_95d88 0 = .ok (.lload_n 0, 1) := dqr0 dqK_30 dqw_cJ13_bitCount_95d88_0 0 rfl rfl
theorem dJ13_bitCount_95d88_1 : decode cJ13_bitCount_95d88 1 = .ok (.lload_n 0, 1) := dqr0 dqK_30 dqw_cJ13_bitCount_95d88_0 1 rfl rfl
theorem dJ13_bitCount_95d88_2 : decode cJ13_bitCount_95d88 2 = .ok (.iconst 1, 1) := dqr0 dqK_4 dqw_cJ13_bitCount_95d88_0 2 rfl rfl
theorem dJ13_bitCount_95d88_3 : decode cJ13_bitCount_95d88 3 = .ok (.lushr, 1) := dqr0 dqK_125 dqw_cJ13_bitCount_95d88_0 3 rfl rfl
theorem dJ13_bitCount_95d88_4 : decode cJ13_bitCount_95d88 4 = .ok (.ldc2_w 314, 3) := dqr2 dqK_20 dqw_cJ13_bitCount_95d88_0 4 rfl rfl rfl rfl rfl
theorem dJ13_bitCount_95d88_7 : decode cJ13_bitCount_95d88 7 = .ok (.land, 1) := dqr0 dqK_127 dqw_cJ13_bitCount_95d88_0 7 rfl rfl
theorem dJ13_bitCount_95d88_8 : decode cJ13_bitCount_95d88 8 = .ok (.lsub, 1) := dqr0 dqK_101 dqw_cJ13_bitCount_95d88_0 8 rfl rfl
theorem dJ13_bitCount_95d88_9 : decode cJ13_bitCount_95d88 9 = .ok (.lstore_n 0, 1) := dqr0 dqK_63 dqw_cJ13_bitCount_95d88_0 9 rfl rfl
theorem dJ13_bitCount_95d88_10 : decode cJ13_bitCount_95d88 10 = .ok (.lload_n 0, 1) := dqr0 dqK_30 dqw_cJ13_bitCount_95d88_0 10 rfl rfl
theorem dJ13_bitCount_95d88_11 : decode cJ13_bitCount_95d88 11 = .ok (.ldc2_w 316, 3) := dqr2 dqK_20 dqw_cJ13_bitCount_95d88_0 11 rfl rfl rfl rfl rfl
theorem dJ13_bitCount_95d88_14 : decode cJ13_bitCount_95d88 14 = .ok (.land, 1) := dqr0 dqK_127 dqw_cJ13_bitCount_95d88_0 14 rfl rfl
theorem dJ13_bitCount_95d88_15 : decode cJ13_bitCount_95d88 15 = .ok (.lload_n 0, 1) := dqr0 dqK_30 dqw_cJ13_bitCount_95d88_0 15 rfl rfl
theorem dJ13_bitCount_95d88_16 : decode cJ13_bitCount_95d88 16 = .ok (.iconst 2, 1) := dqr0 dqK_5 dqw_cJ13_bitCount_95d88_0 16 rfl rfl
theorem dJ13_bitCount_95d88_17 : decode cJ13_bitCount_95d88 17 = .ok (.lushr, 1) := dqr0 dqK_125 dqw_cJ13_bitCount_95d88_0 17 rfl rfl
theorem dJ13_bitCount_95d88_18 : decode cJ13_bitCount_95d88 18 = .ok (.ldc2_w 316, 3) := dqr2 dqK_20 dqw_cJ13_bitCount_95d88_0 18 rfl rfl rfl rfl rfl
theorem dJ13_bitCount_95d88_21 : decode cJ13_bitCount_95d88 21 = .ok (.land, 1) := dqr0 dqK_127 dqw_cJ13_bitCount_95d88_0 21 rfl rfl
theorem dJ13_bitCount_95d88_22 : decode cJ13_bitCount_95d88 22 = .ok (.ladd, 1) := dqr0 dqK_97 dqw_cJ13_bitCount_95d88_0 22 rfl rfl
theorem dJ13_bitCount_95d88_23 : decode cJ13_bitCount_95d88 23 = .ok (.lstore_n 0, 1) := dqr0 dqK_63 dqw_cJ13_bitCount_95d88_0 23 rfl rfl
theorem dqw_cJ13_bitCount_95d88_24 : dqLF cJ13_bitCount_95d88 24 [30, 30, 7, 125, 97, 20, 1, 62, 127, 63, 30, 30, 16, 8, 125, 97, 63, 30, 30, 16, 16, 125, 97, 63] := by decide +kernel
theorem dJ13_bitCount_95d88_24 : decode cJ13_bitCount_95d88 24 = .ok (.lload_n 0, 1) := dqr0 dqK_30 dqw_cJ13_bitCount_95d88_24 0 rfl rfl
theorem dJ13_bitCount_95d88_25 : decode cJ13_bitCount_95d88 25 = .ok (.lload_n 0, 1) := dqr0 dqK_30 dqw_cJ13_bitCount_95d88_24 1 rfl rfl
theorem dJ13_bitCount_95d88_26 : decode cJ13_bitCount_95d88 26 = .ok (.iconst 4, 1) := dqr0 dqK_7 dqw_cJ13_bitCount_95d88_24 2 rfl rfl
theorem dJ13_bitCount_95d88_27 : decode cJ13_bitCount_95d88 27 = .ok (.lushr, 1) := dqr0 dqK_125 dqw_cJ13_bitCount_95d88_24 3 rfl rfl
theorem dJ13_bitCount_95d88_28 : decode cJ13_bitCount_95d88 28 = .ok (.ladd, 1) := dqr0 dqK_97 dqw_cJ13_bitCount_95d88_24 4 rfl rfl
theorem dJ13_bitCount_95d88_29 : decode cJ13_bitCount_95d88 29 = .ok (.ldc2_w 318, 3) := dqr2 dqK_20 dqw_cJ13_bitCount_95d88_24 5 rfl rfl rfl rfl rfl
theorem dJ13_bitCount_95d88_32 : decode cJ13_bitCount_95d88 32 = .ok (.land, 1) := dqr0 dqK_127 dqw_cJ13_bitCount_95d88_24 8 rfl rfl
theorem dJ13_bitCount_95d88_33 : decode cJ13_bitCount_95d88 33 = .ok (.lstore_n 0, 1) := dqr0 dqK_63 dqw_cJ13_bitCount_95d88_24 9 rfl rfl
theorem dJ13_bitCount_95d88_34 : decode cJ13_bitCount_95d88 34 = .ok (.lload_n 0, 1) := dqr0 dqK_30 dqw_cJ13_bitCount_95d88_24 10 rfl rfl
theorem dJ13_bitCount_95d88_35 : decode cJ13_bitCount_95d88 35 = .ok (.lload_n 0, 1) := dqr0 dqK_30 dqw_cJ13_bitCount_95d88_24 11 rfl rfl
theorem dJ13_bitCount_95d88_36 : decode cJ13_bitCount_95d88 36 = .ok (.bipush 8, 2) := dqrs1 dqK_16 dqw_cJ13_bitCount_95d88_24 12 rfl rfl rfl (by decide)
theorem dJ13_bitCount_95d88_38 : decode cJ13_bitCount_95d88 38 = .ok (.lushr, 1) := dqr0 dqK_125 dqw_cJ13_bitCount_95d88_24 14 rfl rfl
theorem dJ13_bitCount_95d88_39 : decode cJ13_bitCount_95d88 39 = .ok (.ladd, 1) := dqr0 dqK_97 dqw_cJ13_bitCount_95d88_24 15 rfl rfl
theorem dJ13_bitCount_95d88_40 : decode cJ13_bitCount_95d88 40 = .ok (.lstore_n 0, 1) := dqr0 dqK_63 dqw_cJ13_bitCount_95d88_24 16 rfl rfl
theorem dJ13_bitCount_95d88_41 : decode cJ13_bitCount_95d88 41 = .ok (.lload_n 0, 1) := dqr0 dqK_30 dqw_cJ13_bitCount_95d88_24 17 rfl rfl
theorem dJ13_bitCount_95d88_42 : decode cJ13_bitCount_95d88 42 = .ok (.lload_n 0, 1) := dqr0 dqK_30 dqw_cJ13_bitCount_95d88_24 18 rfl rfl
theorem dJ13_bitCount_95d88_43 : decode cJ13_bitCount_95d88 43 = .ok (.bipush 16, 2) := dqrs1 dqK_16 dqw_cJ13_bitCount_95d88_24 19 rfl rfl rfl (by decide)
theorem dJ13_bitCount_95d88_45 : decode cJ13_bitCount_95d88 45 = .ok (.lushr, 1) := dqr0 dqK_125 dqw_cJ13_bitCount_95d88_24 21 rfl rfl
theorem dJ13_bitCount_95d88_46 : decode cJ13_bitCount_95d88 46 = .ok (.ladd, 1) := dqr0 dqK_97 dqw_cJ13_bitCount_95d88_24 22 rfl rfl
theorem dJ13_bitCount_95d88_47 : decode cJ13_bitCount_95d88 47 = .ok (.lstore_n 0, 1) := dqr0 dqK_63 dqw_cJ13_bitCount_95d88_24 23 rfl rfl
theorem dqw_cJ13_bitCount_95d88_48 : dqLF cJ13_bitCount_95d88 48 [30, 30, 16, 32, 125, 97, 63, 30, 136, 16, 127, 126, 172] := by decide +kernel
theorem dJ13_bitCount_95d88_48 : decode cJ13_bitCount_95d88 48 = .ok (.lload_n 0, 1) := dqr0 dqK_30 dqw_cJ13_bitCount_95d88_48 0 rfl rfl
theorem dJ13_bitCount_95d88_49 : decode cJ13_bitCount_95d88 49 = .ok (.lload_n 0, 1) := dqr0 dqK_30 dqw_cJ13_bitCount_95d88_48 1 rfl rfl
theorem dJ13_bitCount_95d88_50 : decode cJ13_bitCount_95d88 50 = .ok (.bipush 32, 2) := dqrs1 dqK_16 dqw_cJ13_bitCount_95d88_48 2 rfl rfl rfl (by decide)
theorem dJ13_bitCount_95d88_52 : decode cJ13_bitCount_95d88 52 = .ok (.lushr, 1) := dqr0 dqK_125 dqw_cJ13_bitCount_95d88_48 4 rfl rfl
theorem dJ13_bitCount_95d88_53 : decode cJ13_bitCount_95d88 53 = .ok (.ladd, 1) := dqr0 dqK_97 dqw_cJ13_bitCount_95d88_48 5 rfl rfl
theorem dJ13_bitCount_95d88_54 : decode cJ13_bitCount_95d88 54 = .ok (.lstore_n 0, 1) := dqr0 dqK_63 dqw_cJ13_bitCount_95d88_48 6 rfl rfl
theorem dJ13_bitCount_95d88_55 : decode cJ13_bitCount_95d88 55 = .ok (.lload_n 0, 1) := dqr0 dqK_30 dqw_cJ13_bitCount_95d88_48 7 rfl rfl
theorem dJ13_bitCount_95d88_56 : decode cJ13_bitCount_95d88 56 = .ok (.l2i, 1) := dqr0 dqK_136 dqw_cJ13_bitCount_95d88_48 8 rfl rfl
theorem dJ13_bitCount_95d88_57 : decode cJ13_bitCount_95d88 57 = .ok (.bipush 127, 2) := dqrs1 dqK_16 dqw_cJ13_bitCount_95d88_48 9 rfl rfl rfl (by decide)
theorem dJ13_bitCount_95d88_59 : decode cJ13_bitCount_95d88 59 = .ok (.iand, 1) := dqr0 dqK_126 dqw_cJ13_bitCount_95d88_48 11 rfl rfl
theorem dJ13_bitCount_95d88_60 : decode cJ13_bitCount_95d88 60 = .ok (.ireturn, 1) := dqr0 dqK_172 dqw_cJ13_bitCount_95d88_48 12 rfl rfl
theorem dqw_cJ7_fill_53178_0 : dqLF cJ7_fill_53178 0 [3, 61, 42, 190, 62, 28, 29, 162, 0, 13, 42, 28, 27, 79, 132, 2, 1, 167, 255, 244, 177] := by decide +kernel
theorem dJ7_fill_53178_0 : decode cJ7_fill_53178 0 = .ok (.iconst 0, 1) := dqr0 dqK_3 dqw_cJ7_fill_53178_0 0 rfl rfl
theorem dJ7_fill_53178_1 : decode cJ7_fill_53178 1 = .ok (.istore_n 2, 1) := dqr0 dqK_61 dqw_cJ7_fill_53178_0 1 rfl rfl
theorem dJ7_fill_53178_2 : decode cJ7_fill_53178 2 = .ok (.aload_n 0, 1) := dqr0 dqK_42 dqw_cJ7_fill_53178_0 2 rfl rfl
theorem dJ7_fill_53178_3 : decode cJ7_fill_53178 3 = .ok (.arraylength, 1) := dqr0 dqK_190 dqw_cJ7_fill_53178_0 3 rfl rfl
theorem dJ7_fill_53178_4 : decode cJ7_fill_53178 4 = .ok (.istore_n 3, 1) := dqr0 dqK_62 dqw_cJ7_fill_53178_0 4 rfl rfl
theorem dJ7_fill_53178_5 : decode cJ7_fill_53178 5 = .ok (.iload_n 2, 1) := dqr0 dqK_28 dqw_cJ7_fill_53178_0 5 rfl rfl
theorem dJ7_fill_53178_6 : decode cJ7_fill_53178 6 = .ok (.iload_n 3, 1) := dqr0 dqK_29 dqw_cJ7_fill_53178_0 6 rfl rfl
theorem dJ7_fill_53178_7 : decode cJ7_fill_53178 7 = .ok (.if_icmp .ge 13, 3) := dqrs2 dqK_162 dqw_cJ7_fill_53178_0 7 rfl rfl rfl rfl (by decide)
theorem dJ7_fill_53178_10 : decode cJ7_fill_53178 10 = .ok (.aload_n 0, 1) := dqr0 dqK_42 dqw_cJ7_fill_53178_0 10 rfl rfl
theorem dJ7_fill_53178_11 : decode cJ7_fill_53178 11 = .ok (.iload_n 2, 1) := dqr0 dqK_28 dqw_cJ7_fill_53178_0 11 rfl rfl
theorem dJ7_fill_53178_12 : decode cJ7_fill_53178 12 = .ok (.iload_n 1, 1) := dqr0 dqK_27 dqw_cJ7_fill_53178_0 12 rfl rfl
theorem dJ7_fill_53178_13 : decode cJ7_fill_53178 13 = .ok (.iastore, 1) := dqr0 dqK_79 dqw_cJ7_fill_53178_0 13 rfl rfl
theorem dJ7_fill_53178_14 : decode cJ7_fill_53178 14 = .ok (.iinc 2 1, 3) := dqri dqK_132 dqw_cJ7_fill_53178_0 14 rfl rfl rfl rfl (by decide)
theorem dJ7_fill_53178_17 : decode cJ7_fill_53178 17 = .ok (.goto (-12), 3) := dqrs2 dqK_167 dqw_cJ7_fill_53178_0 17 rfl rfl rfl rfl (by decide)
theorem dJ7_fill_53178_20 : decode cJ7_fill_53178 20 = .ok (.return_, 1) := dqr0 dqK_177 dqw_cJ7_fill_53178_0 20 rfl rfl
theorem dqw_cJ9_min_7cf53_0 : dqLF cJ9_min_7cf53 0 [26, 27, 163, 0, 7, 26, 167, 0, 4, 27, 172] := by decide +kernel
theorem dJ9_min_7cf53_0 : decode cJ9_min_7cf53 0 = .ok (.iload_n 0, 1) := dqr0 dqK_26 dqw_cJ9_min_7cf53_0 0 rfl rfl
theorem dJ9_min_7cf53_1 : decode cJ9_min_7cf53 1 = .ok (.iload_n 1, 1) := dqr0 dqK_27 dqw_cJ9_min_7cf53_0 1 rfl rfl
theorem dJ9_min_7cf53_2 : decode cJ9_min_7cf53 2 = .ok (.if_icmp .gt 7, 3) := dqrs2 dqK_163 dqw_cJ9_min_7cf53_0 2 rfl rfl rfl rfl (by decide)
theorem dJ9_min_7cf53_5 : decode cJ9_min_7cf53 5 = .ok (.iload_n 0, 1) := dqr0 dqK_26 dqw_cJ9_min_7cf53_0 5 rfl rfl
theorem dJ9_min_7cf53_6 : decode cJ9_min_7cf53 6 = .ok (.goto 4, 3) := dqrs2 dqK_167 dqw_cJ9_min_7cf53_0 6 rfl rfl rfl rfl (by decide)
theorem dJ9_min_7cf53_9 : decode cJ9_min_7cf53 9 = .ok (.iload_n 1, 1) := dqr0 dqK_27 dqw_cJ9_min_7cf53_0 9 rfl rfl
theorem dJ9_min_7cf53_10 : decode cJ9_min_7cf53 10 = .ok (.ireturn, 1) := dqr0 dqK_172 dqw_cJ9_min_7cf53_0 10 rfl rfl
theorem dqw_cJ9_min_f86c9_0 : dqLF cJ9_min_f86c9 0 [30, 32, 148, 157, 0, 7, 30, 167, 0, 4, 32, 173] := by decide +kernel
theorem dJ9_min_f86c9_0 : decode cJ9_min_f86c9 0 = .ok (.lload_n 0, 1) := dqr0 dqK_30 dqw_cJ9_min_f86c9_0 0 rfl rfl
theorem dJ9_min_f86c9_1 : decode cJ9_min_f86c9 1 = .ok (.lload_n 2, 1) := dqr0 dqK_32 dqw_cJ9_min_f86c9_0 1 rfl rfl
theorem dJ9_min_f86c9_2 : decode cJ9_min_f86c9 2 = .ok (.lcmp, 1) := dqr0 dqK_148 dqw_cJ9_min_f86c9_0 2 rfl rfl
theorem dJ9_min_f86c9_3 : decode cJ9_min_f86c9 3 = .ok (.ifCond .gt 7, 3) := dqrs2 dqK_157 dqw_cJ9_min_f86c9_0 3 rfl rfl rfl rfl (by decide)
theorem dJ9_min_f86c9_6 : decode cJ9_min_f86c9 6 = .ok (.lload_n 0, 1) := dqr0 dqK_30 dqw_cJ9_min_f86c9_0 6 rfl rfl
theorem dJ9_min_f86c9_7 : decode cJ9_min_f86c9 7 = .ok (.goto 4, 3) := dqrs2 dqK_167 dqw_cJ9_min_f86c9_0 7 rfl rfl rfl rfl (by decide)
theorem dJ9_min_f86c9_10 : decode cJ9_min_f86c9 10 = .ok (.lload_n 2, 1) := dqr0 dqK_32 dqw_cJ9_min_f86c9_0 10 rfl rfl
theorem dJ9_min_f86c9_11 : decode cJ9_min_f86c9 11 = .ok (.lreturn, 1) := dqr0 dqK_173 dqw_cJ9_min_f86c9_0 11 rfl rfl
theorem dqw_cX0_init_0 : dqLF cX0_init 0 [42, 183, 0, 3, 42, 16, 8] := by decide +kernel
theorem dX0_init_0 : decode cX0_init 0 = .ok (.aload_n 0, 1) := dqr0 dqK_42 dqw_cX0_init_0 0 rfl rfl
theorem dX0_init_1 : decode cX0_init 1 = .ok (.invokespecial 3, 3) := dqr2 dqK_183 dqw_cX0_init_0 1 rfl rfl rfl rfl rfl
theorem dX0_init_4 : decode cX0_init 4 = .ok (.aload_n 0, 1) := dqr0 dqK_42 dqw_cX0_init_0 4 rfl rfl
theorem dX0_init_5 : decode cX0_init 5 = .ok (.bipush 8, 2) := dqrs1 dqK_16 dqw_cX0_init_0 5 rfl rfl rfl (by decide)
theorem dX0_init_7 : decode cX0_init 7 = .ok (.newarray .int, 2) := by decide +kernel
theorem dqw_cX0_init_9 : dqLF cX0_init 9 [181, 0, 9, 42, 16, 8] := by decide +kernel
theorem dX0_init_9 : decode cX0_init 9 = .ok (.putfield 9, 3) := dqr2 dqK_181 dqw_cX0_init_9 0 rfl rfl rfl rfl rfl
theorem dX0_init_12 : decode cX0_init 12 = .ok (.aload_n 0, 1) := dqr0 dqK_42 dqw_cX0_init_9 3 rfl rfl
theorem dX0_init_13 : decode cX0_init 13 = .ok (.bipush 8, 2) := dqrs1 dqK_16 dqw_cX0_init_9 4 rfl rfl rfl (by decide)
theorem dX0_init_15 : decode cX0_init 15 = .ok (.newarray .int, 2) := by decide +kernel
theorem dqw_cX0_init_17 : dqLF cX0_init 17 [181, 0, 15, 42, 3, 181, 0, 18, 42, 17, 0, 200] := by decide +kernel
theorem dX0_init_17 : decode cX0_init 17 = .ok (.putfield 15, 3) := dqr2 dqK_181 dqw_cX0_init_17 0 rfl rfl rfl rfl rfl
theorem dX0_init_20 : decode cX0_init 20 = .ok (.aload_n 0, 1) := dqr0 dqK_42 dqw_cX0_init_17 3 rfl rfl
theorem dX0_init_21 : decode cX0_init 21 = .ok (.iconst 0, 1) := dqr0 dqK_3 dqw_cX0_init_17 4 rfl rfl
theorem dX0_init_22 : decode cX0_init 22 = .ok (.putfield 18, 3) := dqr2 dqK_181 dqw_cX0_init_17 5 rfl rfl rfl rfl rfl
theorem dX0_init_25 : decode cX0_init 25 = .ok (.aload_n 0, 1) := dqr0 dqK_42 dqw_cX0_init_17 8 rfl rfl
theorem dX0_init_26 : decode cX0_init 26 = .ok (.sipush 200, 3) := dqrs2 dqK_17 dqw_cX0_init_17 9 rfl rfl rfl rfl (by decide)
theorem dX0_init_29 : decode cX0_init 29 = .ok (.newarray .int, 2) := by decide +kernel
theorem dqw_cX0_init_31 : dqLF cX0_init 31 [181, 0, 22, 42, 17, 0, 200] := by decide +kernel
theorem dX0_init_31 : decode cX0_init 31 = .ok (.putfield 22, 3) := dqr2 dqK_181 dqw_cX0_init_31 0 rfl rfl rfl rfl rfl
theorem dX0_init_34 : decode cX0_init 34 = .ok (.aload_n 0, 1) := dqr0 dqK_42 dqw_cX0_init_31 3 rfl rfl
theorem dX0_init_35 : decode cX0_init 35 = .ok (.sipush 200, 3) := dqrs2 dqK_17 dqw_cX0_init_31 4 rfl rfl rfl rfl (by decide)
theorem dX0_init_38 : decode cX0_init 38 = .ok (.newarray .int, 2) := by decide +kernel
theorem dqw_cX0_init_40 : dqLF cX0_init 40 [181, 0, 25, 42, 17, 0, 200] := by decide +kernel
theorem dX0_init_40 : decode cX0_init 40 = .ok (.putfield 25, 3) := dqr2 dqK_181 dqw_cX0_init_40 0 rfl rfl rfl rfl rfl
theorem dX0_init_43 : decode cX0_init 43 = .ok (.aload_n 0, 1) := dqr0 dqK_42 dqw_cX0_init_40 3 rfl rfl
theorem dX0_init_44 : decode cX0_init 44 = .ok (.sipush 200, 3) := dqrs2 dqK_17 dqw_cX0_init_40 4 rfl rfl rfl rfl (by decide)
theorem dX0_init_47 : decode cX0_init 47 = .ok (.newarray .int, 2) := by decide +kernel
theorem dqw_cX0_init_49 : dqLF cX0_init 49 [181, 0, 28, 42, 17, 0, 200] := by decide +kernel
theorem dX0_init_49 : decode cX0_init 49 = .ok (.putfield 28, 3) := dqr2 dqK_181 dqw_cX0_init_49 0 rfl rfl rfl rfl rfl
theorem dX0_init_52 : decode cX0_init 52 = .ok (.aload_n 0, 1) := dqr0 dqK_42 dqw_cX0_init_49 3 rfl rfl
theorem dX0_init_53 : decode cX0_init 53 = .ok (.sipush 200, 3) := dqrs2 dqK_17 dqw_cX0_init_49 4 rfl rfl rfl rfl (by decide)
theorem dX0_init_56 : decode cX0_init 56 = .ok (.newarray .boolean, 2) := by decide +kernel
theorem dqw_cX0_init_58 : dqLF cX0_init 58 [181, 0, 31, 42, 3, 181, 0, 35, 42, 16, 40] := by decide +kernel
theorem dX0_init_58 : decode cX0_init 58 = .ok (.putfield 31, 3) := dqr2 dqK_181 dqw_cX0_init_58 0 rfl rfl rfl rfl rfl
theorem dX0_init_61 : decode cX0_init 61 = .ok (.aload_n 0, 1) := dqr0 dqK_42 dqw_cX0_init_58 3 rfl rfl
theorem dX0_init_62 : decode cX0_init 62 = .ok (.iconst 0, 1) := dqr0 dqK_3 dqw_cX0_init_58 4 rfl rfl
theorem dX0_init_63 : decode cX0_init 63 = .ok (.putfield 35, 3) := dqr2 dqK_181 dqw_cX0_init_58 5 rfl rfl rfl rfl rfl
theorem dX0_init_66 : decode cX0_init 66 = .ok (.aload_n 0, 1) := dqr0 dqK_42 dqw_cX0_init_58 8 rfl rfl
theorem dX0_init_67 : decode cX0_init 67 = .ok (.bipush 40, 2) := dqrs1 dqK_16 dqw_cX0_init_58 9 rfl rfl rfl (by decide)
theorem dX0_init_69 : decode cX0_init 69 = .ok (.newarray .int, 2) := by decide +kernel
theorem dqw_cX0_init_71 : dqLF cX0_init 71 [181, 0, 38, 42, 16, 8] := by decide +kernel
theorem dX0_init_71 : decode cX0_init 71 = .ok (.putfield 38, 3) := dqr2 dqK_181 dqw_cX0_init_71 0 rfl rfl rfl rfl rfl
theorem dX0_init_74 : decode cX0_init 74 = .ok (.aload_n 0, 1) := dqr0 dqK_42 dqw_cX0_init_71 3 rfl rfl
theorem dX0_init_75 : decode cX0_init 75 = .ok (.bipush 8, 2) := dqrs1 dqK_16 dqw_cX0_init_71 4 rfl rfl rfl (by decide)
theorem dX0_init_77 : decode cX0_init 77 = .ok (.newarray .long, 2) := by decide +kernel
theorem dqw_cX0_init_79 : dqLF cX0_init 79 [181, 0, 41, 42, 16, 10] := by decide +kernel
theorem dX0_init_79 : decode cX0_init 79 = .ok (.putfield 41, 3) := dqr2 dqK_181 dqw_cX0_init_79 0 rfl rfl rfl rfl rfl
theorem dX0_init_82 : decode cX0_init 82 = .ok (.aload_n 0, 1) := dqr0 dqK_42 dqw_cX0_init_79 3 rfl rfl
theorem dX0_init_83 : decode cX0_init 83 = .ok (.bipush 10, 2) := dqrs1 dqK_16 dqw_cX0_init_79 4 rfl rfl rfl (by decide)
theorem dX0_init_85 : decode cX0_init 85 = .ok (.newarray .int, 2) := by decide +kernel
theorem dqw_cX0_init_87 : dqLF cX0_init 87 [181, 0, 45, 177] := by decide +kernel
theorem dX0_init_87 : decode cX0_init 87 = .ok (.putfield 45, 3) := dqr2 dqK_181 dqw_cX0_init_87 0 rfl rfl rfl rfl rfl
theorem dX0_init_90 : decode cX0_init 90 = .ok (.return_, 1) := dqr0 dqK_177 dqw_cX0_init_87 3 rfl rfl
theorem dqw_cX0_isSinger_0 : dqLF cX0_isSinger 0 [27, 155, 0, 15, 27, 42, 180, 0, 18, 162, 0, 7, 4, 167, 0, 4, 3, 172] := by decide +kernel
theorem dX0_isSinger_0 : decode cX0_isSinger 0 = .ok (.iload_n 1, 1) := dqr0 dqK_27 dqw_cX0_isSinger_0 0 rfl rfl
theorem dX0_isSinger_1 : decode cX0_isSinger 1 = .ok (.ifCond .lt 15, 3) := dqrs2 dqK_155 dqw_cX0_isSinger_0 1 rfl rfl rfl rfl (by decide)
theorem dX0_isSinger_4 : decode cX0_isSinger 4 = .ok (.iload_n 1, 1) := dqr0 dqK_27 dqw_cX0_isSinger_0 4 rfl rfl
theorem dX0_isSinger_5 : decode cX0_isSinger 5 = .ok (.aload_n 0, 1) := dqr0 dqK_42 dqw_cX0_isSinger_0 5 rfl rfl
theorem dX0_isSinger_6 : decode cX0_isSinger 6 = .ok (.getfield 18, 3) := dqr2 dqK_180 dqw_cX0_isSinger_0 6 rfl rfl rfl rfl rfl
theorem dX0_isSinger_9 : decode cX0_isSinger 9 = .ok (.if_icmp .ge 7, 3) := dqrs2 dqK_162 dqw_cX0_isSinger_0 9 rfl rfl rfl rfl (by decide)
theorem dX0_isSinger_12 : decode cX0_isSinger 12 = .ok (.iconst 1, 1) := dqr0 dqK_4 dqw_cX0_isSinger_0 12 rfl rfl
theorem dX0_isSinger_13 : decode cX0_isSinger 13 = .ok (.goto 4, 3) := dqrs2 dqK_167 dqw_cX0_isSinger_0 13 rfl rfl rfl rfl (by decide)
theorem dX0_isSinger_16 : decode cX0_isSinger 16 = .ok (.iconst 0, 1) := dqr0 dqK_3 dqw_cX0_isSinger_0 16 rfl rfl
theorem dX0_isSinger_17 : decode cX0_isSinger 17 = .ok (.ireturn, 1) := dqr0 dqK_172 dqw_cX0_isSinger_0 17 rfl rfl
theorem dqw_cX0_isKnown_0 : dqLF cX0_isKnown 0 [27, 2, 161, 0, 15, 27, 42, 180, 0, 35, 163, 0, 7, 4, 167, 0, 4, 3, 172] := by decide +kernel
theorem dX0_isKnown_0 : decode cX0_isKnown 0 = .ok (.iload_n 1, 1) := dqr0 dqK_27 dqw_cX0_isKnown_0 0 rfl rfl
theorem dX0_isKnown_1 : decode cX0_isKnown 1 = .ok (.iconst (-1), 1) := dqr0 dqK_2 dqw_cX0_isKnown_0 1 rfl rfl
theorem dX0_isKnown_2 : decode cX0_isKnown 2 = .ok (.if_icmp .lt 15, 3) := dqrs2 dqK_161 dqw_cX0_isKnown_0 2 rfl rfl rfl rfl (by decide)
theorem dX0_isKnown_5 : decode cX0_isKnown 5 = .ok (.iload_n 1, 1) := dqr0 dqK_27 dqw_cX0_isKnown_0 5 rfl rfl
theorem dX0_isKnown_6 : decode cX0_isKnown 6 = .ok (.aload_n 0, 1) := dqr0 dqK_42 dqw_cX0_isKnown_0 6 rfl rfl
theorem dX0_isKnown_7 : decode cX0_isKnown 7 = .ok (.getfield 35, 3) := dqr2 dqK_180 dqw_cX0_isKnown_0 7 rfl rfl rfl rfl rfl
theorem dX0_isKnown_10 : decode cX0_isKnown 10 = .ok (.if_icmp .gt 7, 3) := dqrs2 dqK_163 dqw_cX0_isKnown_0 10 rfl rfl rfl rfl (by decide)
theorem dX0_isKnown_13 : decode cX0_isKnown 13 = .ok (.iconst 1, 1) := dqr0 dqK_4 dqw_cX0_isKnown_0 13 rfl rfl
theorem dX0_isKnown_14 : decode cX0_isKnown 14 = .ok (.goto 4, 3) := dqrs2 dqK_167 dqw_cX0_isKnown_0 14 rfl rfl rfl rfl (by decide)
theorem dX0_isKnown_17 : decode cX0_isKnown 17 = .ok (.iconst 0, 1) := dqr0 dqK_3 dqw_cX0_isKnown_0 17 rfl rfl
theorem dX0_isKnown_18 : decode cX0_isKnown 18 = .ok (.ireturn, 1) := dqr0 dqK_172 dqw_cX0_isKnown_0 18 rfl rfl
theorem dqw_cX0_addSinger_0 : dqLF cX0_addSinger 0 [42, 180, 0, 9, 42, 180, 0, 18, 27, 79, 42, 89, 180, 0, 18, 4, 96, 181, 0, 18, 42, 180, 0, 18] := by decide +kernel
theorem dX0_addSinger_0 : decode cX0_addSinger 0 = .ok (.aload_n 0, 1) := dqr0 dqK_42 dqw_cX0_addSinger_0 0 rfl rfl
theorem dX0_addSinger_1 : decode cX0_addSinger 1 = .ok (.getfield 9, 3) := dqr2 dqK_180 dqw_cX0_addSinger_0 1 rfl rfl rfl rfl rfl
theorem dX0_addSinger_4 : decode cX0_addSinger 4 = .ok (.aload_n 0, 1) := dqr0 dqK_42 dqw_cX0_addSinger_0 4 rfl rfl
theorem dX0_addSinger_5 : decode cX0_addSinger 5 = .ok (.getfield 18, 3) := dqr2 dqK_180 dqw_cX0_addSinger_0 5 rfl rfl rfl rfl rfl
theorem dX0_addSinger_8 : decode cX0_addSinger 8 = .ok (.iload_n 1, 1) := dqr0 dqK_27 dqw_cX0_addSinger_0 8 rfl rfl
theorem dX0_addSinger_9 : decode cX0_addSinger 9 = .ok (.iastore, 1) := dqr0 dqK_79 dqw_cX0_addSinger_0 9 rfl rfl
theorem dX0_addSinger_10 : decode cX0_addSinger 10 = .ok (.aload_n 0, 1) := dqr0 dqK_42 dqw_cX0_addSinger_0 10 rfl rfl
theorem dX0_addSinger_11 : decode cX0_addSinger 11 = .ok (.dup, 1) := dqr0 dqK_89 dqw_cX0_addSinger_0 11 rfl rfl
theorem dX0_addSinger_12 : decode cX0_addSinger 12 = .ok (.getfield 18, 3) := dqr2 dqK_180 dqw_cX0_addSinger_0 12 rfl rfl rfl rfl rfl
theorem dX0_addSinger_15 : decode cX0_addSinger 15 = .ok (.iconst 1, 1) := dqr0 dqK_4 dqw_cX0_addSinger_0 15 rfl rfl
theorem dX0_addSinger_16 : decode cX0_addSinger 16 = .ok (.iadd, 1) := dqr0 dqK_96 dqw_cX0_addSinger_0 16 rfl rfl
theorem dX0_addSinger_17 : decode cX0_addSinger 17 = .ok (.putfield 18, 3) := dqr2 dqK_181 dqw_cX0_addSinger_0 17 rfl rfl rfl rfl rfl
theorem dX0_addSinger_20 : decode cX0_addSinger 20 = .ok (.aload_n 0, 1) := dqr0 dqK_42 dqw_cX0_addSinger_0 20 rfl rfl
theorem dX0_addSinger_21 : decode cX0_addSinger 21 = .ok (.getfield 18, 3) := dqr2 dqK_180 dqw_cX0_addSinger_0 21 rfl rfl rfl rfl rfl
theorem dqw_cX0_addSinger_24 : dqLF cX0_addSinger 24 [4, 100, 172] := by decide +kernel
theorem dX0_addSinger_24 : decode cX0_addSinger 24 = .ok (.iconst 1, 1) := dqr0 dqK_4 dqw_cX0_addSinger_24 0 rfl rfl
theorem dX0_addSinger_25 : decode cX0_addSinger 25 = .ok (.isub, 1) := dqr0 dqK_100 dqw_cX0_addSinger_24 1 rfl rfl
theorem dX0_addSinger_26 : decode cX0_addSinger 26 = .ok (.ireturn, 1) := dqr0 dqK_172 dqw_cX0_addSinger_24 2 rfl rfl
theorem dqw_cX0_enter_0 : dqLF cX0_enter 0 [42, 180, 0, 22, 42, 180, 0, 35, 27, 79, 42, 180, 0, 25, 42, 180, 0, 35, 28, 79, 42, 180, 0, 28] := by decide +kernel
theorem dX0_enter_0 : decode cX0_enter 0 = .ok (.aload_n 0, 1) := dqr0 dqK_42 dqw_cX0_enter_0 0 rfl rfl
theorem dX0_enter_1 : decode cX0_enter 1 = .ok (.getfield 22, 3) := dqr2 dqK_180 dqw_cX0_enter_0 1 rfl rfl rfl rfl rfl
theorem dX0_enter_4 : decode cX0_enter 4 = .ok (.aload_n 0, 1) := dqr0 dqK_42 dqw_cX0_enter_0 4 rfl rfl
theorem dX0_enter_5 : decode cX0_enter 5 = .ok (.getfield 35, 3) := dqr2 dqK_180 dqw_cX0_enter_0 5 rfl rfl rfl rfl rfl
theorem dX0_enter_8 : decode cX0_enter 8 = .ok (.iload_n 1, 1) := dqr0 dqK_27 dqw_cX0_enter_0 8 rfl rfl
theorem dX0_enter_9 : decode cX0_enter 9 = .ok (.iastore, 1) := dqr0 dqK_79 dqw_cX0_enter_0 9 rfl rfl
theorem dX0_enter_10 : decode cX0_enter 10 = .ok (.aload_n 0, 1) := dqr0 dqK_42 dqw_cX0_enter_0 10 rfl rfl
theorem dX0_enter_11 : decode cX0_enter 11 = .ok (.getfield 25, 3) := dqr2 dqK_180 dqw_cX0_enter_0 11 rfl rfl rfl rfl rfl
theorem dX0_enter_14 : decode cX0_enter 14 = .ok (.aload_n 0, 1) := dqr0 dqK_42 dqw_cX0_enter_0 14 rfl rfl
theorem dX0_enter_15 : decode cX0_enter 15 = .ok (.getfield 35, 3) := dqr2 dqK_180 dqw_cX0_enter_0 15 rfl rfl rfl rfl rfl
theorem dX0_enter_18 : decode cX0_enter 18 = .ok (.iload_n 2, 1) := dqr0 dqK_28 dqw_cX0_enter_0 18 rfl rfl
theorem dX0_enter_19 : decode cX0_enter 19 = .ok (.iastore, 1) := dqr0 dqK_79 dqw_cX0_enter_0 19 rfl rfl
theorem dX0_enter_20 : decode cX0_enter 20 = .ok (.aload_n 0, 1) := dqr0 dqK_42 dqw_cX0_enter_0 20 rfl rfl
theorem dX0_enter_21 : decode cX0_enter 21 = .ok (.getfield 28, 3) := dqr2 dqK_180 dqw_cX0_enter_0 21 rfl rfl rfl rfl rfl
theorem dqw_cX0_enter_24 : dqLF cX0_enter 24 [42, 180, 0, 35, 29, 79, 42, 180, 0, 31, 42, 180, 0, 35, 21, 4, 84, 42, 89, 180, 0, 35, 4, 96] := by decide +kernel
theorem dX0_enter_24 : decode cX0_enter 24 = .ok (.aload_n 0, 1) := dqr0 dqK_42 dqw_cX0_enter_24 0 rfl rfl
theorem dX0_enter_25 : decode cX0_enter 25 = .ok (.getfield 35, 3) := dqr2 dqK_180 dqw_cX0_enter_24 1 rfl rfl rfl rfl rfl
theorem dX0_enter_28 : decode cX0_enter 28 = .ok (.iload_n 3, 1) := dqr0 dqK_29 dqw_cX0_enter_24 4 rfl rfl
theorem dX0_enter_29 : decode cX0_enter 29 = .ok (.iastore, 1) := dqr0 dqK_79 dqw_cX0_enter_24 5 rfl rfl
theorem dX0_enter_30 : decode cX0_enter 30 = .ok (.aload_n 0, 1) := dqr0 dqK_42 dqw_cX0_enter_24 6 rfl rfl
theorem dX0_enter_31 : decode cX0_enter 31 = .ok (.getfield 31, 3) := dqr2 dqK_180 dqw_cX0_enter_24 7 rfl rfl rfl rfl rfl
theorem dX0_enter_34 : decode cX0_enter 34 = .ok (.aload_n 0, 1) := dqr0 dqK_42 dqw_cX0_enter_24 10 rfl rfl
theorem dX0_enter_35 : decode cX0_enter 35 = .ok (.getfield 35, 3) := dqr2 dqK_180 dqw_cX0_enter_24 11 rfl rfl rfl rfl rfl
theorem dX0_enter_38 : decode cX0_enter 38 = .ok (.iload 4, 2) := dqr1 dqK_21 dqw_cX0_enter_24 14 rfl rfl rfl
theorem dX0_enter_40 : decode cX0_enter 40 = .ok (.bastore, 1) := dqr0 dqK_84 dqw_cX0_enter_24 16 rfl rfl
theorem dX0_enter_41 : decode cX0_enter 41 = .ok (.aload_n 0, 1) := dqr0 dqK_42 dqw_cX0_enter_24 17 rfl rfl
theorem dX0_enter_42 : decode cX0_enter 42 = .ok (.dup, 1) := dqr0 dqK_89 dqw_cX0_enter_24 18 rfl rfl
theorem dX0_enter_43 : decode cX0_enter 43 = .ok (.getfield 35, 3) := dqr2 dqK_180 dqw_cX0_enter_24 19 rfl rfl rfl rfl rfl
theorem dX0_enter_46 : decode cX0_enter 46 = .ok (.iconst 1, 1) := dqr0 dqK_4 dqw_cX0_enter_24 22 rfl rfl
theorem dX0_enter_47 : decode cX0_enter 47 = .ok (.iadd, 1) := dqr0 dqK_96 dqw_cX0_enter_24 23 rfl rfl
theorem dqw_cX0_enter_48 : dqLF cX0_enter 48 [181, 0, 35, 42, 180, 0, 35, 172] := by decide +kernel
theorem dX0_enter_48 : decode cX0_enter 48 = .ok (.putfield 35, 3) := dqr2 dqK_181 dqw_cX0_enter_48 0 rfl rfl rfl rfl rfl
theorem dX0_enter_51 : decode cX0_enter 51 = .ok (.aload_n 0, 1) := dqr0 dqK_42 dqw_cX0_enter_48 3 rfl rfl
theorem dX0_enter_52 : decode cX0_enter 52 = .ok (.getfield 35, 3) := dqr2 dqK_180 dqw_cX0_enter_48 4 rfl rfl rfl rfl rfl
theorem dX0_enter_55 : decode cX0_enter 55 = .ok (.ireturn, 1) := dqr0 dqK_172 dqw_cX0_enter_48 7 rfl rfl
theorem dqw_cX0_stockOf_0 : dqLF cX0_stockOf 0 [29, 2, 160, 0, 10, 42, 180, 0, 35, 167, 0, 4, 29, 54, 4, 9, 55, 5, 42, 180, 0, 38, 2] := by decide +kernel
theorem dX0_stockOf_0 : decode cX0_stockOf 0 = .ok (.iload_n 3, 1) := dqr0 dqK_29 dqw_cX0_stockOf_0 0 rfl rfl
theorem dX0_stockOf_1 : decode cX0_stockOf 1 = .ok (.iconst (-1), 1) := dqr0 dqK_2 dqw_cX0_stockOf_0 1 rfl rfl
theorem dX0_stockOf_2 : decode cX0_stockOf 2 = .ok (.if_icmp .ne 10, 3) := dqrs2 dqK_160 dqw_cX0_stockOf_0 2 rfl rfl rfl rfl (by decide)
theorem dX0_stockOf_5 : decode cX0_stockOf 5 = .ok (.aload_n 0, 1) := dqr0 dqK_42 dqw_cX0_stockOf_0 5 rfl rfl
theorem dX0_stockOf_6 : decode cX0_stockOf 6 = .ok (.getfield 35, 3) := dqr2 dqK_180 dqw_cX0_stockOf_0 6 rfl rfl rfl rfl rfl
theorem dX0_stockOf_9 : decode cX0_stockOf 9 = .ok (.goto 4, 3) := dqrs2 dqK_167 dqw_cX0_stockOf_0 9 rfl rfl rfl rfl (by decide)
theorem dX0_stockOf_12 : decode cX0_stockOf 12 = .ok (.iload_n 3, 1) := dqr0 dqK_29 dqw_cX0_stockOf_0 12 rfl rfl
theorem dX0_stockOf_13 : decode cX0_stockOf 13 = .ok (.istore 4, 2) := dqr1 dqK_54 dqw_cX0_stockOf_0 13 rfl rfl rfl
theorem dX0_stockOf_15 : decode cX0_stockOf 15 = .ok (.lconst 0, 1) := dqr0 dqK_9 dqw_cX0_stockOf_0 15 rfl rfl
theorem dX0_stockOf_16 : decode cX0_stockOf 16 = .ok (.lstore 5, 2) := dqr1 dqK_55 dqw_cX0_stockOf_0 16 rfl rfl rfl
theorem dX0_stockOf_18 : decode cX0_stockOf 18 = .ok (.aload_n 0, 1) := dqr0 dqK_42 dqw_cX0_stockOf_0 18 rfl rfl
theorem dX0_stockOf_19 : decode cX0_stockOf 19 = .ok (.getfield 38, 3) := dqr2 dqK_180 dqw_cX0_stockOf_0 19 rfl rfl rfl rfl rfl
theorem dX0_stockOf_22 : decode cX0_stockOf 22 = .ok (.iconst (-1), 1) := dqr0 dqK_2 dqw_cX0_stockOf_0 22 rfl rfl
theorem dqw_cX0_stockOf_23 : dqLF cX0_stockOf 23 [184, 0, 48, 3, 54, 7, 21, 7, 21, 4, 162, 0, 104, 42, 180, 0, 25, 21, 7, 46, 54, 8, 42] := by decide +kernel
theorem dX0_stockOf_23 : decode cX0_stockOf 23 = .ok (.invokestatic 48, 3) := dqr2 dqK_184 dqw_cX0_stockOf_23 0 rfl rfl rfl rfl rfl
theorem dX0_stockOf_26 : decode cX0_stockOf 26 = .ok (.iconst 0, 1) := dqr0 dqK_3 dqw_cX0_stockOf_23 3 rfl rfl
theorem dX0_stockOf_27 : decode cX0_stockOf 27 = .ok (.istore 7, 2) := dqr1 dqK_54 dqw_cX0_stockOf_23 4 rfl rfl rfl
theorem dX0_stockOf_29 : decode cX0_stockOf 29 = .ok (.iload 7, 2) := dqr1 dqK_21 dqw_cX0_stockOf_23 6 rfl rfl rfl
theorem dX0_stockOf_31 : decode cX0_stockOf 31 = .ok (.iload 4, 2) := dqr1 dqK_21 dqw_cX0_stockOf_23 8 rfl rfl rfl
theorem dX0_stockOf_33 : decode cX0_stockOf 33 = .ok (.if_icmp .ge 104, 3) := dqrs2 dqK_162 dqw_cX0_stockOf_23 10 rfl rfl rfl rfl (by decide)
theorem dX0_stockOf_36 : decode cX0_stockOf 36 = .ok (.aload_n 0, 1) := dqr0 dqK_42 dqw_cX0_stockOf_23 13 rfl rfl
theorem dX0_stockOf_37 : decode cX0_stockOf 37 = .ok (.getfield 25, 3) := dqr2 dqK_180 dqw_cX0_stockOf_23 14 rfl rfl rfl rfl rfl
theorem dX0_stockOf_40 : decode cX0_stockOf 40 = .ok (.iload 7, 2) := dqr1 dqK_21 dqw_cX0_stockOf_23 17 rfl rfl rfl
theorem dX0_stockOf_42 : decode cX0_stockOf 42 = .ok (.iaload, 1) := dqr0 dqK_46 dqw_cX0_stockOf_23 19 rfl rfl
theorem dX0_stockOf_43 : decode cX0_stockOf 43 = .ok (.istore 8, 2) := dqr1 dqK_54 dqw_cX0_stockOf_23 20 rfl rfl rfl
theorem dX0_stockOf_45 : decode cX0_stockOf 45 = .ok (.aload_n 0, 1) := dqr0 dqK_42 dqw_cX0_stockOf_23 22 rfl rfl
theorem dqw_cX0_stockOf_46 : dqLF cX0_stockOf 46 [180, 0, 22, 21, 7, 46, 27, 160, 0, 78, 42, 180, 0, 28, 21, 7, 46, 28, 163, 0, 67, 42] := by decide +kernel
theorem dX0_stockOf_46 : decode cX0_stockOf 46 = .ok (.getfield 22, 3) := dqr2 dqK_180 dqw_cX0_stockOf_46 0 rfl rfl rfl rfl rfl
theorem dX0_stockOf_49 : decode cX0_stockOf 49 = .ok (.iload 7, 2) := dqr1 dqK_21 dqw_cX0_stockOf_46 3 rfl rfl rfl
theorem dX0_stockOf_51 : decode cX0_stockOf 51 = .ok (.iaload, 1) := dqr0 dqK_46 dqw_cX0_stockOf_46 5 rfl rfl
theorem dX0_stockOf_52 : decode cX0_stockOf 52 = .ok (.iload_n 1, 1) := dqr0 dqK_27 dqw_cX0_stockOf_46 6 rfl rfl
theorem dX0_stockOf_53 : decode cX0_stockOf 53 = .ok (.if_icmp .ne 78, 3) := dqrs2 dqK_160 dqw_cX0_stockOf_46 7 rfl rfl rfl rfl (by decide)
theorem dX0_stockOf_56 : decode cX0_stockOf 56 = .ok (.aload_n 0, 1) := dqr0 dqK_42 dqw_cX0_stockOf_46 10 rfl rfl
theorem dX0_stockOf_57 : decode cX0_stockOf 57 = .ok (.getfield 28, 3) := dqr2 dqK_180 dqw_cX0_stockOf_46 11 rfl rfl rfl rfl rfl
theorem dX0_stockOf_60 : decode cX0_stockOf 60 = .ok (.iload 7, 2) := dqr1 dqK_21 dqw_cX0_stockOf_46 14 rfl rfl rfl
theorem dX0_stockOf_62 : decode cX0_stockOf 62 = .ok (.iaload, 1) := dqr0 dqK_46 dqw_cX0_stockOf_46 16 rfl rfl
theorem dX0_stockOf_63 : decode cX0_stockOf 63 = .ok (.iload_n 2, 1) := dqr0 dqK_28 dqw_cX0_stockOf_46 17 rfl rfl
theorem dX0_stockOf_64 : decode cX0_stockOf 64 = .ok (.if_icmp .gt 67, 3) := dqrs2 dqK_163 dqw_cX0_stockOf_46 18 rfl rfl rfl rfl (by decide)
theorem dX0_stockOf_67 : decode cX0_stockOf 67 = .ok (.aload_n 0, 1) := dqr0 dqK_42 dqw_cX0_stockOf_46 21 rfl rfl
theorem dqw_cX0_stockOf_68 : dqLF cX0_stockOf 68 [180, 0, 28, 21, 7, 46, 42, 180, 0, 38, 21, 8, 46, 161, 0, 50, 42, 180, 0, 38, 21, 8, 42] := by decide +kernel
theorem dX0_stockOf_68 : decode cX0_stockOf 68 = .ok (.getfield 28, 3) := dqr2 dqK_180 dqw_cX0_stockOf_68 0 rfl rfl rfl rfl rfl
theorem dX0_stockOf_71 : decode cX0_stockOf 71 = .ok (.iload 7, 2) := dqr1 dqK_21 dqw_cX0_stockOf_68 3 rfl rfl rfl
theorem dX0_stockOf_73 : decode cX0_stockOf 73 = .ok (.iaload, 1) := dqr0 dqK_46 dqw_cX0_stockOf_68 5 rfl rfl
theorem dX0_stockOf_74 : decode cX0_stockOf 74 = .ok (.aload_n 0, 1) := dqr0 dqK_42 dqw_cX0_stockOf_68 6 rfl rfl
theorem dX0_stockOf_75 : decode cX0_stockOf 75 = .ok (.getfield 38, 3) := dqr2 dqK_180 dqw_cX0_stockOf_68 7 rfl rfl rfl rfl rfl
theorem dX0_stockOf_78 : decode cX0_stockOf 78 = .ok (.iload 8, 2) := dqr1 dqK_21 dqw_cX0_stockOf_68 10 rfl rfl rfl
theorem dX0_stockOf_80 : decode cX0_stockOf 80 = .ok (.iaload, 1) := dqr0 dqK_46 dqw_cX0_stockOf_68 12 rfl rfl
theorem dX0_stockOf_81 : decode cX0_stockOf 81 = .ok (.if_icmp .lt 50, 3) := dqrs2 dqK_161 dqw_cX0_stockOf_68 13 rfl rfl rfl rfl (by decide)
theorem dX0_stockOf_84 : decode cX0_stockOf 84 = .ok (.aload_n 0, 1) := dqr0 dqK_42 dqw_cX0_stockOf_68 16 rfl rfl
theorem dX0_stockOf_85 : decode cX0_stockOf 85 = .ok (.getfield 38, 3) := dqr2 dqK_180 dqw_cX0_stockOf_68 17 rfl rfl rfl rfl rfl
theorem dX0_stockOf_88 : decode cX0_stockOf 88 = .ok (.iload 8, 2) := dqr1 dqK_21 dqw_cX0_stockOf_68 20 rfl rfl rfl
theorem dX0_stockOf_90 : decode cX0_stockOf 90 = .ok (.aload_n 0, 1) := dqr0 dqK_42 dqw_cX0_stockOf_68 22 rfl rfl
theorem dqw_cX0_stockOf_91 : dqLF cX0_stockOf 91 [180, 0, 28, 21, 7, 46, 79, 42, 180, 0, 31, 21, 7, 51, 153, 0, 13, 22, 5, 10, 21, 8, 121, 129] := by decide +kernel
theorem dX0_stockOf_91 : decode cX0_stockOf 91 = .ok (.getfield 28, 3) := dqr2 dqK_180 dqw_cX0_stockOf_91 0 rfl rfl rfl rfl rfl
theorem dX0_stockOf_94 : decode cX0_stockOf 94 = .ok (.iload 7, 2) := dqr1 dqK_21 dqw_cX0_stockOf_91 3 rfl rfl rfl
theorem dX0_stockOf_96 : decode cX0_stockOf 96 = .ok (.iaload, 1) := dqr0 dqK_46 dqw_cX0_stockOf_91 5 rfl rfl
theorem dX0_stockOf_97 : decode cX0_stockOf 97 = .ok (.iastore, 1) := dqr0 dqK_79 dqw_cX0_stockOf_91 6 rfl rfl
theorem dX0_stockOf_98 : decode cX0_stockOf 98 = .ok (.aload_n 0, 1) := dqr0 dqK_42 dqw_cX0_stockOf_91 7 rfl rfl
theorem dX0_stockOf_99 : decode cX0_stockOf 99 = .ok (.getfield 31, 3) := dqr2 dqK_180 dqw_cX0_stockOf_91 8 rfl rfl rfl rfl rfl
theorem dX0_stockOf_102 : decode cX0_stockOf 102 = .ok (.iload 7, 2) := dqr1 dqK_21 dqw_cX0_stockOf_91 11 rfl rfl rfl
theorem dX0_stockOf_104 : decode cX0_stockOf 104 = .ok (.baload, 1) := dqr0 dqK_51 dqw_cX0_stockOf_91 13 rfl rfl
theorem dX0_stockOf_105 : decode cX0_stockOf 105 = .ok (.ifCond .eq 13, 3) := dqrs2 dqK_153 dqw_cX0_stockOf_91 14 rfl rfl rfl rfl (by decide)
theorem dX0_stockOf_108 : decode cX0_stockOf 108 = .ok (.lload 5, 2) := dqr1 dqK_22 dqw_cX0_stockOf_91 17 rfl rfl rfl
theorem dX0_stockOf_110 : decode cX0_stockOf 110 = .ok (.lconst 1, 1) := dqr0 dqK_10 dqw_cX0_stockOf_91 19 rfl rfl
theorem dX0_stockOf_111 : decode cX0_stockOf 111 = .ok (.iload 8, 2) := dqr1 dqK_21 dqw_cX0_stockOf_91 20 rfl rfl rfl
theorem dX0_stockOf_113 : decode cX0_stockOf 113 = .ok (.lshl, 1) := dqr0 dqK_121 dqw_cX0_stockOf_91 22 rfl rfl
theorem dX0_stockOf_114 : decode cX0_stockOf 114 = .ok (.lor, 1) := dqr0 dqK_129 dqw_cX0_stockOf_91 23 rfl rfl
theorem dqw_cX0_stockOf_115 : dqLF cX0_stockOf 115 [167, 0, 14, 22, 5, 10, 21, 8, 121, 20, 0, 54, 131, 127, 55, 5, 132, 7, 1, 167, 255, 151, 22, 5] := by decide +kernel
theorem dX0_stockOf_115 : decode cX0_stockOf 115 = .ok (.goto 14, 3) := dqrs2 dqK_167 dqw_cX0_stockOf_115 0 rfl rfl rfl rfl (by decide)
theorem dX0_stockOf_118 : decode cX0_stockOf 118 = .ok (.lload 5, 2) := dqr1 dqK_22 dqw_cX0_stockOf_115 3 rfl rfl rfl
theorem dX0_stockOf_120 : decode cX0_stockOf 120 = .ok (.lconst 1, 1) := dqr0 dqK_10 dqw_cX0_stockOf_115 5 rfl rfl
theorem dX0_stockOf_121 : decode cX0_stockOf 121 = .ok (.iload 8, 2) := dqr1 dqK_21 dqw_cX0_stockOf_115 6 rfl rfl rfl
theorem dX0_stockOf_123 : decode cX0_stockOf 123 = .ok (.lshl, 1) := dqr0 dqK_121 dqw_cX0_stockOf_115 8 rfl rfl
theorem dX0_stockOf_124 : decode cX0_stockOf 124 = .ok (.ldc2_w 54, 3) := dqr2 dqK_20 dqw_cX0_stockOf_115 9 rfl rfl rfl rfl rfl
theorem dX0_stockOf_127 : decode cX0_stockOf 127 = .ok (.lxor, 1) := dqr0 dqK_131 dqw_cX0_stockOf_115 12 rfl rfl
theorem dX0_stockOf_128 : decode cX0_stockOf 128 = .ok (.land, 1) := dqr0 dqK_127 dqw_cX0_stockOf_115 13 rfl rfl
theorem dX0_stockOf_129 : decode cX0_stockOf 129 = .ok (.lstore 5, 2) := dqr1 dqK_55 dqw_cX0_stockOf_115 14 rfl rfl rfl
theorem dX0_stockOf_131 : decode cX0_stockOf 131 = .ok (.iinc 7 1, 3) := dqri dqK_132 dqw_cX0_stockOf_115 16 rfl rfl rfl rfl (by decide)
theorem dX0_stockOf_134 : decode cX0_stockOf 134 = .ok (.goto (-105), 3) := dqrs2 dqK_167 dqw_cX0_stockOf_115 19 rfl rfl rfl rfl (by decide)
theorem dX0_stockOf_137 : decode cX0_stockOf 137 = .ok (.lload 5, 2) := dqr1 dqK_22 dqw_cX0_stockOf_115 22 rfl rfl rfl
theorem dqw_cX0_stockOf_139 : dqLF cX0_stockOf 139 [173] := by decide +kernel
theorem dX0_stockOf_139 : decode cX0_stockOf 139 = .ok (.lreturn, 1) := dqr0 dqK_173 dqw_cX0_stockOf_139 0 rfl rfl
theorem dqw_cX0_openAt_0 : dqLF cX0_openAt 0 [3, 62, 29, 42, 180, 0, 18, 162, 0, 22, 42, 180, 0, 41, 29, 42, 29, 27, 28, 182, 0, 56, 80] := by decide +kernel
theorem dX0_openAt_0 : decode cX0_openAt 0 = .ok (.iconst 0, 1) := dqr0 dqK_3 dqw_cX0_openAt_0 0 rfl rfl
theorem dX0_openAt_1 : decode cX0_openAt 1 = .ok (.istore_n 3, 1) := dqr0 dqK_62 dqw_cX0_openAt_0 1 rfl rfl
theorem dX0_openAt_2 : decode cX0_openAt 2 = .ok (.iload_n 3, 1) := dqr0 dqK_29 dqw_cX0_openAt_0 2 rfl rfl
theorem dX0_openAt_3 : decode cX0_openAt 3 = .ok (.aload_n 0, 1) := dqr0 dqK_42 dqw_cX0_openAt_0 3 rfl rfl
theorem dX0_openAt_4 : decode cX0_openAt 4 = .ok (.getfield 18, 3) := dqr2 dqK_180 dqw_cX0_openAt_0 4 rfl rfl rfl rfl rfl
theorem dX0_openAt_7 : decode cX0_openAt 7 = .ok (.if_icmp .ge 22, 3) := dqrs2 dqK_162 dqw_cX0_openAt_0 7 rfl rfl rfl rfl (by decide)
theorem dX0_openAt_10 : decode cX0_openAt 10 = .ok (.aload_n 0, 1) := dqr0 dqK_42 dqw_cX0_openAt_0 10 rfl rfl
theorem dX0_openAt_11 : decode cX0_openAt 11 = .ok (.getfield 41, 3) := dqr2 dqK_180 dqw_cX0_openAt_0 11 rfl rfl rfl rfl rfl
theorem dX0_openAt_14 : decode cX0_openAt 14 = .ok (.iload_n 3, 1) := dqr0 dqK_29 dqw_cX0_openAt_0 14 rfl rfl
theorem dX0_openAt_15 : decode cX0_openAt 15 = .ok (.aload_n 0, 1) := dqr0 dqK_42 dqw_cX0_openAt_0 15 rfl rfl
theorem dX0_openAt_16 : decode cX0_openAt 16 = .ok (.iload_n 3, 1) := dqr0 dqK_29 dqw_cX0_openAt_0 16 rfl rfl
theorem dX0_openAt_17 : decode cX0_openAt 17 = .ok (.iload_n 1, 1) := dqr0 dqK_27 dqw_cX0_openAt_0 17 rfl rfl
theorem dX0_openAt_18 : decode cX0_openAt 18 = .ok (.iload_n 2, 1) := dqr0 dqK_28 dqw_cX0_openAt_0 18 rfl rfl
theorem dX0_openAt_19 : decode cX0_openAt 19 = .ok (.invokevirtual 56, 3) := dqr2 dqK_182 dqw_cX0_openAt_0 19 rfl rfl rfl rfl rfl
theorem dX0_openAt_22 : decode cX0_openAt 22 = .ok (.lastore, 1) := dqr0 dqK_80 dqw_cX0_openAt_0 22 rfl rfl
theorem dqw_cX0_openAt_23 : dqLF cX0_openAt 23 [132, 3, 1, 167, 255, 232, 177] := by decide +kernel
theorem dX0_openAt_23 : decode cX0_openAt 23 = .ok (.iinc 3 1, 3) := dqri dqK_132 dqw_cX0_openAt_23 0 rfl rfl rfl rfl (by decide)
theorem dX0_openAt_26 : decode cX0_openAt 26 = .ok (.goto (-24), 3) := dqrs2 dqK_167 dqw_cX0_openAt_23 3 rfl rfl rfl rfl (by decide)
theorem dX0_openAt_29 : decode cX0_openAt 29 = .ok (.return_, 1) := dqr0 dqK_177 dqw_cX0_openAt_23 6 rfl rfl
theorem dqw_cX0_changes_0 : dqLF cX0_changes 0 [42, 180, 0, 41, 27, 47, 42, 180, 0, 41, 28, 47, 131, 184, 0, 60, 172] := by decide +kernel
theorem dX0_changes_0 : decode cX0_changes 0 = .ok (.aload_n 0, 1) := dqr0 dqK_42 dqw_cX0_changes_0 0 rfl rfl
theorem dX0_changes_1 : decode cX0_changes 1 = .ok (.getfield 41, 3) := dqr2 dqK_180 dqw_cX0_changes_0 1 rfl rfl rfl rfl rfl
theorem dX0_changes_4 : decode cX0_changes 4 = .ok (.iload_n 1, 1) := dqr0 dqK_27 dqw_cX0_changes_0 4 rfl rfl
theorem dX0_changes_5 : decode cX0_changes 5 = .ok (.laload, 1) := dqr0 dqK_47 dqw_cX0_changes_0 5 rfl rfl
theorem dX0_changes_6 : decode cX0_changes 6 = .ok (.aload_n 0, 1) := dqr0 dqK_42 dqw_cX0_changes_0 6 rfl rfl
theorem dX0_changes_7 : decode cX0_changes 7 = .ok (.getfield 41, 3) := dqr2 dqK_180 dqw_cX0_changes_0 7 rfl rfl rfl rfl rfl
theorem dX0_changes_10 : decode cX0_changes 10 = .ok (.iload_n 2, 1) := dqr0 dqK_28 dqw_cX0_changes_0 10 rfl rfl
theorem dX0_changes_11 : decode cX0_changes 11 = .ok (.laload, 1) := dqr0 dqK_47 dqw_cX0_changes_0 11 rfl rfl
theorem dX0_changes_12 : decode cX0_changes 12 = .ok (.lxor, 1) := dqr0 dqK_131 dqw_cX0_changes_0 12 rfl rfl
theorem dX0_changes_13 : decode cX0_changes 13 = .ok (.invokestatic 60, 3) := dqr2 dqK_184 dqw_cX0_changes_0 13 rfl rfl rfl rfl rfl
theorem dX0_changes_16 : decode cX0_changes 16 = .ok (.ireturn, 1) := dqr0 dqK_172 dqw_cX0_changes_0 16 rfl rfl
theorem dqw_cX0_masterOf_0 : dqLF cX0_masterOf 0 [16, 251, 61, 3, 62, 29, 42, 180, 0, 18, 162, 0, 42, 42, 180, 0, 9, 29, 46, 42, 180, 0, 9, 27] := by decide +kernel
theorem dX0_masterOf_0 : decode cX0_masterOf 0 = .ok (.bipush (-5), 2) := dqrs1 dqK_16 dqw_cX0_masterOf_0 0 rfl rfl rfl (by decide)
theorem dX0_masterOf_2 : decode cX0_masterOf 2 = .ok (.istore_n 2, 1) := dqr0 dqK_61 dqw_cX0_masterOf_0 2 rfl rfl
theorem dX0_masterOf_3 : decode cX0_masterOf 3 = .ok (.iconst 0, 1) := dqr0 dqK_3 dqw_cX0_masterOf_0 3 rfl rfl
theorem dX0_masterOf_4 : decode cX0_masterOf 4 = .ok (.istore_n 3, 1) := dqr0 dqK_62 dqw_cX0_masterOf_0 4 rfl rfl
theorem dX0_masterOf_5 : decode cX0_masterOf 5 = .ok (.iload_n 3, 1) := dqr0 dqK_29 dqw_cX0_masterOf_0 5 rfl rfl
theorem dX0_masterOf_6 : decode cX0_masterOf 6 = .ok (.aload_n 0, 1) := dqr0 dqK_42 dqw_cX0_masterOf_0 6 rfl rfl
theorem dX0_masterOf_7 : decode cX0_masterOf 7 = .ok (.getfield 18, 3) := dqr2 dqK_180 dqw_cX0_masterOf_0 7 rfl rfl rfl rfl rfl
theorem dX0_masterOf_10 : decode cX0_masterOf 10 = .ok (.if_icmp .ge 42, 3) := dqrs2 dqK_162 dqw_cX0_masterOf_0 10 rfl rfl rfl rfl (by decide)
theorem dX0_masterOf_13 : decode cX0_masterOf 13 = .ok (.aload_n 0, 1) := dqr0 dqK_42 dqw_cX0_masterOf_0 13 rfl rfl
theorem dX0_masterOf_14 : decode cX0_masterOf 14 = .ok (.getfield 9, 3) := dqr2 dqK_180 dqw_cX0_masterOf_0 14 rfl rfl rfl rfl rfl
theorem dX0_masterOf_17 : decode cX0_masterOf 17 = .ok (.iload_n 3, 1) := dqr0 dqK_29 dqw_cX0_masterOf_0 17 rfl rfl
theorem dX0_masterOf_18 : decode cX0_masterOf 18 = .ok (.iaload, 1) := dqr0 dqK_46 dqw_cX0_masterOf_0 18 rfl rfl
theorem dX0_masterOf_19 : decode cX0_masterOf 19 = .ok (.aload_n 0, 1) := dqr0 dqK_42 dqw_cX0_masterOf_0 19 rfl rfl
theorem dX0_masterOf_20 : decode cX0_masterOf 20 = .ok (.getfield 9, 3) := dqr2 dqK_180 dqw_cX0_masterOf_0 20 rfl rfl rfl rfl rfl
theorem dX0_masterOf_23 : decode cX0_masterOf 23 = .ok (.iload_n 1, 1) := dqr0 dqK_27 dqw_cX0_masterOf_0 23 rfl rfl
theorem dqw_cX0_masterOf_24 : dqLF cX0_masterOf 24 [46, 162, 0, 21, 28, 16, 251, 159, 0, 13, 42, 29, 28, 27, 182, 0, 66, 153, 0, 5, 29, 61] := by decide +kernel
theorem dX0_masterOf_24 : decode cX0_masterOf 24 = .ok (.iaload, 1) := dqr0 dqK_46 dqw_cX0_masterOf_24 0 rfl rfl
theorem dX0_masterOf_25 : decode cX0_masterOf 25 = .ok (.if_icmp .ge 21, 3) := dqrs2 dqK_162 dqw_cX0_masterOf_24 1 rfl rfl rfl rfl (by decide)
theorem dX0_masterOf_28 : decode cX0_masterOf 28 = .ok (.iload_n 2, 1) := dqr0 dqK_28 dqw_cX0_masterOf_24 4 rfl rfl
theorem dX0_masterOf_29 : decode cX0_masterOf 29 = .ok (.bipush (-5), 2) := dqrs1 dqK_16 dqw_cX0_masterOf_24 5 rfl rfl rfl (by decide)
theorem dX0_masterOf_31 : decode cX0_masterOf 31 = .ok (.if_icmp .eq 13, 3) := dqrs2 dqK_159 dqw_cX0_masterOf_24 7 rfl rfl rfl rfl (by decide)
theorem dX0_masterOf_34 : decode cX0_masterOf 34 = .ok (.aload_n 0, 1) := dqr0 dqK_42 dqw_cX0_masterOf_24 10 rfl rfl
theorem dX0_masterOf_35 : decode cX0_masterOf 35 = .ok (.iload_n 3, 1) := dqr0 dqK_29 dqw_cX0_masterOf_24 11 rfl rfl
theorem dX0_masterOf_36 : decode cX0_masterOf 36 = .ok (.iload_n 2, 1) := dqr0 dqK_28 dqw_cX0_masterOf_24 12 rfl rfl
theorem dX0_masterOf_37 : decode cX0_masterOf 37 = .ok (.iload_n 1, 1) := dqr0 dqK_27 dqw_cX0_masterOf_24 13 rfl rfl
theorem dX0_masterOf_38 : decode cX0_masterOf 38 = .ok (.invokevirtual 66, 3) := dqr2 dqK_182 dqw_cX0_masterOf_24 14 rfl rfl rfl rfl rfl
theorem dX0_masterOf_41 : decode cX0_masterOf 41 = .ok (.ifCond .eq 5, 3) := dqrs2 dqK_153 dqw_cX0_masterOf_24 17 rfl rfl rfl rfl (by decide)
theorem dX0_masterOf_44 : decode cX0_masterOf 44 = .ok (.iload_n 3, 1) := dqr0 dqK_29 dqw_cX0_masterOf_24 20 rfl rfl
theorem dX0_masterOf_45 : decode cX0_masterOf 45 = .ok (.istore_n 2, 1) := dqr0 dqK_61 dqw_cX0_masterOf_24 21 rfl rfl
theorem dqw_cX0_masterOf_46 : dqLF cX0_masterOf 46 [132, 3, 1, 167, 255, 212, 28, 172] := by decide +kernel
theorem dX0_masterOf_46 : decode cX0_masterOf 46 = .ok (.iinc 3 1, 3) := dqri dqK_132 dqw_cX0_masterOf_46 0 rfl rfl rfl rfl (by decide)
theorem dX0_masterOf_49 : decode cX0_masterOf 49 = .ok (.goto (-44), 3) := dqrs2 dqK_167 dqw_cX0_masterOf_46 3 rfl rfl rfl rfl (by decide)
theorem dX0_masterOf_52 : decode cX0_masterOf 52 = .ok (.iload_n 2, 1) := dqr0 dqK_28 dqw_cX0_masterOf_46 6 rfl rfl
theorem dX0_masterOf_53 : decode cX0_masterOf 53 = .ok (.ireturn, 1) := dqr0 dqK_172 dqw_cX0_masterOf_46 7 rfl rfl
theorem dqw_cX0_isNearer_0 : dqLF cX0_isNearer 0 [42, 27, 29, 182, 0, 70, 42, 28, 29, 182, 0, 70, 100, 54, 4, 21, 4, 153, 0, 16, 21, 4] := by decide +kernel
theorem dX0_isNearer_0 : decode cX0_isNearer 0 = .ok (.aload_n 0, 1) := dqr0 dqK_42 dqw_cX0_isNearer_0 0 rfl rfl
theorem dX0_isNearer_1 : decode cX0_isNearer 1 = .ok (.iload_n 1, 1) := dqr0 dqK_27 dqw_cX0_isNearer_0 1 rfl rfl
theorem dX0_isNearer_2 : decode cX0_isNearer 2 = .ok (.iload_n 3, 1) := dqr0 dqK_29 dqw_cX0_isNearer_0 2 rfl rfl
theorem dX0_isNearer_3 : decode cX0_isNearer 3 = .ok (.invokevirtual 70, 3) := dqr2 dqK_182 dqw_cX0_isNearer_0 3 rfl rfl rfl rfl rfl
theorem dX0_isNearer_6 : decode cX0_isNearer 6 = .ok (.aload_n 0, 1) := dqr0 dqK_42 dqw_cX0_isNearer_0 6 rfl rfl
theorem dX0_isNearer_7 : decode cX0_isNearer 7 = .ok (.iload_n 2, 1) := dqr0 dqK_28 dqw_cX0_isNearer_0 7 rfl rfl
theorem dX0_isNearer_8 : decode cX0_isNearer 8 = .ok (.iload_n 3, 1) := dqr0 dqK_29 dqw_cX0_isNearer_0 8 rfl rfl
theorem dX0_isNearer_9 : decode cX0_isNearer 9 = .ok (.invokevirtual 70, 3) := dqr2 dqK_182 dqw_cX0_isNearer_0 9 rfl rfl rfl rfl rfl
theorem dX0_isNearer_12 : decode cX0_isNearer 12 = .ok (.isub, 1) := dqr0 dqK_100 dqw_cX0_isNearer_0 12 rfl rfl
theorem dX0_isNearer_13 : decode cX0_isNearer 13 = .ok (.istore 4, 2) := dqr1 dqK_54 dqw_cX0_isNearer_0 13 rfl rfl rfl
theorem dX0_isNearer_15 : decode cX0_isNearer 15 = .ok (.iload 4, 2) := dqr1 dqK_21 dqw_cX0_isNearer_0 15 rfl rfl rfl
theorem dX0_isNearer_17 : decode cX0_isNearer 17 = .ok (.ifCond .eq 16, 3) := dqrs2 dqK_153 dqw_cX0_isNearer_0 17 rfl rfl rfl rfl (by decide)
theorem dX0_isNearer_20 : decode cX0_isNearer 20 = .ok (.iload 4, 2) := dqr1 dqK_21 dqw_cX0_isNearer_0 20 rfl rfl rfl
theorem dqw_cX0_isNearer_22 : dqLF cX0_isNearer 22 [156, 0, 7, 4, 167, 0, 27, 3, 167, 0, 23, 42, 180, 0, 9, 27, 46, 42, 180, 0, 9, 28, 46] := by decide +kernel
theorem dX0_isNearer_22 : decode cX0_isNearer 22 = .ok (.ifCond .ge 7, 3) := dqrs2 dqK_156 dqw_cX0_isNearer_22 0 rfl rfl rfl rfl (by decide)
theorem dX0_isNearer_25 : decode cX0_isNearer 25 = .ok (.iconst 1, 1) := dqr0 dqK_4 dqw_cX0_isNearer_22 3 rfl rfl
theorem dX0_isNearer_26 : decode cX0_isNearer 26 = .ok (.goto 27, 3) := dqrs2 dqK_167 dqw_cX0_isNearer_22 4 rfl rfl rfl rfl (by decide)
theorem dX0_isNearer_29 : decode cX0_isNearer 29 = .ok (.iconst 0, 1) := dqr0 dqK_3 dqw_cX0_isNearer_22 7 rfl rfl
theorem dX0_isNearer_30 : decode cX0_isNearer 30 = .ok (.goto 23, 3) := dqrs2 dqK_167 dqw_cX0_isNearer_22 8 rfl rfl rfl rfl (by decide)
theorem dX0_isNearer_33 : decode cX0_isNearer 33 = .ok (.aload_n 0, 1) := dqr0 dqK_42 dqw_cX0_isNearer_22 11 rfl rfl
theorem dX0_isNearer_34 : decode cX0_isNearer 34 = .ok (.getfield 9, 3) := dqr2 dqK_180 dqw_cX0_isNearer_22 12 rfl rfl rfl rfl rfl
theorem dX0_isNearer_37 : decode cX0_isNearer 37 = .ok (.iload_n 1, 1) := dqr0 dqK_27 dqw_cX0_isNearer_22 15 rfl rfl
theorem dX0_isNearer_38 : decode cX0_isNearer 38 = .ok (.iaload, 1) := dqr0 dqK_46 dqw_cX0_isNearer_22 16 rfl rfl
theorem dX0_isNearer_39 : decode cX0_isNearer 39 = .ok (.aload_n 0, 1) := dqr0 dqK_42 dqw_cX0_isNearer_22 17 rfl rfl
theorem dX0_isNearer_40 : decode cX0_isNearer 40 = .ok (.getfield 9, 3) := dqr2 dqK_180 dqw_cX0_isNearer_22 18 rfl rfl rfl rfl rfl
theorem dX0_isNearer_43 : decode cX0_isNearer 43 = .ok (.iload_n 2, 1) := dqr0 dqK_28 dqw_cX0_isNearer_22 21 rfl rfl
theorem dX0_isNearer_44 : decode cX0_isNearer 44 = .ok (.iaload, 1) := dqr0 dqK_46 dqw_cX0_isNearer_22 22 rfl rfl
theorem dqw_cX0_isNearer_45 : dqLF cX0_isNearer 45 [164, 0, 7, 4, 167, 0, 4, 3, 172] := by decide +kernel
theorem dX0_isNearer_45 : decode cX0_isNearer 45 = .ok (.if_icmp .le 7, 3) := dqrs2 dqK_164 dqw_cX0_isNearer_45 0 rfl rfl rfl rfl (by decide)
theorem dX0_isNearer_48 : decode cX0_isNearer 48 = .ok (.iconst 1, 1) := dqr0 dqK_4 dqw_cX0_isNearer_45 3 rfl rfl
theorem dX0_isNearer_49 : decode cX0_isNearer 49 = .ok (.goto 4, 3) := dqrs2 dqK_167 dqw_cX0_isNearer_45 4 rfl rfl rfl rfl (by decide)
theorem dX0_isNearer_52 : decode cX0_isNearer 52 = .ok (.iconst 0, 1) := dqr0 dqK_3 dqw_cX0_isNearer_45 7 rfl rfl
theorem dX0_isNearer_53 : decode cX0_isNearer 53 = .ok (.ireturn, 1) := dqr0 dqK_172 dqw_cX0_isNearer_45 8 rfl rfl
theorem dqw_cX0_masterStock_0 : dqLF cX0_masterStock 0 [42, 27, 182, 0, 74, 61, 28, 16, 251, 160, 0, 7, 9, 167, 0, 9, 42, 180, 0, 41, 28, 47, 173] := by decide +kernel
theorem dX0_masterStock_0 : decode cX0_masterStock 0 = .ok (.aload_n 0, 1) := dqr0 dqK_42 dqw_cX0_masterStock_0 0 rfl rfl
theorem dX0_masterStock_1 : decode cX0_masterStock 1 = .ok (.iload_n 1, 1) := dqr0 dqK_27 dqw_cX0_masterStock_0 1 rfl rfl
theorem dX0_masterStock_2 : decode cX0_masterStock 2 = .ok (.invokevirtual 74, 3) := dqr2 dqK_182 dqw_cX0_masterStock_0 2 rfl rfl rfl rfl rfl
theorem dX0_masterStock_5 : decode cX0_masterStock 5 = .ok (.istore_n 2, 1) := dqr0 dqK_61 dqw_cX0_masterStock_0 5 rfl rfl
theorem dX0_masterStock_6 : decode cX0_masterStock 6 = .ok (.iload_n 2, 1) := dqr0 dqK_28 dqw_cX0_masterStock_0 6 rfl rfl
theorem dX0_masterStock_7 : decode cX0_masterStock 7 = .ok (.bipush (-5), 2) := dqrs1 dqK_16 dqw_cX0_masterStock_0 7 rfl rfl rfl (by decide)
theorem dX0_masterStock_9 : decode cX0_masterStock 9 = .ok (.if_icmp .ne 7, 3) := dqrs2 dqK_160 dqw_cX0_masterStock_0 9 rfl rfl rfl rfl (by decide)
theorem dX0_masterStock_12 : decode cX0_masterStock 12 = .ok (.lconst 0, 1) := dqr0 dqK_9 dqw_cX0_masterStock_0 12 rfl rfl
theorem dX0_masterStock_13 : decode cX0_masterStock 13 = .ok (.goto 9, 3) := dqrs2 dqK_167 dqw_cX0_masterStock_0 13 rfl rfl rfl rfl (by decide)
theorem dX0_masterStock_16 : decode cX0_masterStock 16 = .ok (.aload_n 0, 1) := dqr0 dqK_42 dqw_cX0_masterStock_0 16 rfl rfl
theorem dX0_masterStock_17 : decode cX0_masterStock 17 = .ok (.getfield 41, 3) := dqr2 dqK_180 dqw_cX0_masterStock_0 17 rfl rfl rfl rfl rfl
theorem dX0_masterStock_20 : decode cX0_masterStock 20 = .ok (.iload_n 2, 1) := dqr0 dqK_28 dqw_cX0_masterStock_0 20 rfl rfl
theorem dX0_masterStock_21 : decode cX0_masterStock 21 = .ok (.laload, 1) := dqr0 dqK_47 dqw_cX0_masterStock_0 21 rfl rfl
theorem dX0_masterStock_22 : decode cX0_masterStock 22 = .ok (.lreturn, 1) := dqr0 dqK_173 dqw_cX0_masterStock_0 22 rfl rfl
theorem dqw_cX0_stockAround_0 : dqLF cX0_stockAround 0 [42, 180, 0, 41, 27, 47, 42, 27, 182, 0, 78, 129, 65, 3, 54, 4, 21, 4, 42, 180, 0, 18] := by decide +kernel
theorem dX0_stockAround_0 : decode cX0_stockAround 0 = .ok (.aload_n 0, 1) := dqr0 dqK_42 dqw_cX0_stockAround_0 0 rfl rfl
theorem dX0_stockAround_1 : decode cX0_stockAround 1 = .ok (.getfield 41, 3) := dqr2 dqK_180 dqw_cX0_stockAround_0 1 rfl rfl rfl rfl rfl
theorem dX0_stockAround_4 : decode cX0_stockAround 4 = .ok (.iload_n 1, 1) := dqr0 dqK_27 dqw_cX0_stockAround_0 4 rfl rfl
theorem dX0_stockAround_5 : decode cX0_stockAround 5 = .ok (.laload, 1) := dqr0 dqK_47 dqw_cX0_stockAround_0 5 rfl rfl
theorem dX0_stockAround_6 : decode cX0_stockAround 6 = .ok (.aload_n 0, 1) := dqr0 dqK_42 dqw_cX0_stockAround_0 6 rfl rfl
theorem dX0_stockAround_7 : decode cX0_stockAround 7 = .ok (.iload_n 1, 1) := dqr0 dqK_27 dqw_cX0_stockAround_0 7 rfl rfl
theorem dX0_stockAround_8 : decode cX0_stockAround 8 = .ok (.invokevirtual 78, 3) := dqr2 dqK_182 dqw_cX0_stockAround_0 8 rfl rfl rfl rfl rfl
theorem dX0_stockAround_11 : decode cX0_stockAround 11 = .ok (.lor, 1) := dqr0 dqK_129 dqw_cX0_stockAround_0 11 rfl rfl
theorem dX0_stockAround_12 : decode cX0_stockAround 12 = .ok (.lstore_n 2, 1) := dqr0 dqK_65 dqw_cX0_stockAround_0 12 rfl rfl
theorem dX0_stockAround_13 : decode cX0_stockAround 13 = .ok (.iconst 0, 1) := dqr0 dqK_3 dqw_cX0_stockAround_0 13 rfl rfl
theorem dX0_stockAround_14 : decode cX0_stockAround 14 = .ok (.istore 4, 2) := dqr1 dqK_54 dqw_cX0_stockAround_0 14 rfl rfl rfl
theorem dX0_stockAround_16 : decode cX0_stockAround 16 = .ok (.iload 4, 2) := dqr1 dqK_21 dqw_cX0_stockAround_0 16 rfl rfl rfl
theorem dX0_stockAround_18 : decode cX0_stockAround 18 = .ok (.aload_n 0, 1) := dqr0 dqK_42 dqw_cX0_stockAround_0 18 rfl rfl
theorem dX0_stockAround_19 : decode cX0_stockAround 19 = .ok (.getfield 18, 3) := dqr2 dqK_180 dqw_cX0_stockAround_0 19 rfl rfl rfl rfl rfl
theorem dqw_cX0_stockAround_22 : dqLF cX0_stockAround 22 [162, 0, 29, 42, 21, 4, 182, 0, 74, 27, 160, 0, 13, 32, 42, 180, 0, 41, 21, 4, 47, 129, 65] := by decide +kernel
theorem dX0_stockAround_22 : decode cX0_stockAround 22 = .ok (.if_icmp .ge 29, 3) := dqrs2 dqK_162 dqw_cX0_stockAround_22 0 rfl rfl rfl rfl (by decide)
theorem dX0_stockAround_25 : decode cX0_stockAround 25 = .ok (.aload_n 0, 1) := dqr0 dqK_42 dqw_cX0_stockAround_22 3 rfl rfl
theorem dX0_stockAround_26 : decode cX0_stockAround 26 = .ok (.iload 4, 2) := dqr1 dqK_21 dqw_cX0_stockAround_22 4 rfl rfl rfl
theorem dX0_stockAround_28 : decode cX0_stockAround 28 = .ok (.invokevirtual 74, 3) := dqr2 dqK_182 dqw_cX0_stockAround_22 6 rfl rfl rfl rfl rfl
theorem dX0_stockAround_31 : decode cX0_stockAround 31 = .ok (.iload_n 1, 1) := dqr0 dqK_27 dqw_cX0_stockAround_22 9 rfl rfl
theorem dX0_stockAround_32 : decode cX0_stockAround 32 = .ok (.if_icmp .ne 13, 3) := dqrs2 dqK_160 dqw_cX0_stockAround_22 10 rfl rfl rfl rfl (by decide)
theorem dX0_stockAround_35 : decode cX0_stockAround 35 = .ok (.lload_n 2, 1) := dqr0 dqK_32 dqw_cX0_stockAround_22 13 rfl rfl
theorem dX0_stockAround_36 : decode cX0_stockAround 36 = .ok (.aload_n 0, 1) := dqr0 dqK_42 dqw_cX0_stockAround_22 14 rfl rfl
theorem dX0_stockAround_37 : decode cX0_stockAround 37 = .ok (.getfield 41, 3) := dqr2 dqK_180 dqw_cX0_stockAround_22 15 rfl rfl rfl rfl rfl
theorem dX0_stockAround_40 : decode cX0_stockAround 40 = .ok (.iload 4, 2) := dqr1 dqK_21 dqw_cX0_stockAround_22 18 rfl rfl rfl
theorem dX0_stockAround_42 : decode cX0_stockAround 42 = .ok (.laload, 1) := dqr0 dqK_47 dqw_cX0_stockAround_22 20 rfl rfl
theorem dX0_stockAround_43 : decode cX0_stockAround 43 = .ok (.lor, 1) := dqr0 dqK_129 dqw_cX0_stockAround_22 21 rfl rfl
theorem dX0_stockAround_44 : decode cX0_stockAround 44 = .ok (.lstore_n 2, 1) := dqr0 dqK_65 dqw_cX0_stockAround_22 22 rfl rfl
theorem dqw_cX0_stockAround_45 : dqLF cX0_stockAround 45 [132, 4, 1, 167, 255, 224, 32, 173] := by decide +kernel
theorem dX0_stockAround_45 : decode cX0_stockAround 45 = .ok (.iinc 4 1, 3) := dqri dqK_132 dqw_cX0_stockAround_45 0 rfl rfl rfl rfl (by decide)
theorem dX0_stockAround_48 : decode cX0_stockAround 48 = .ok (.goto (-32), 3) := dqrs2 dqK_167 dqw_cX0_stockAround_45 3 rfl rfl rfl rfl (by decide)
theorem dX0_stockAround_51 : decode cX0_stockAround 51 = .ok (.lload_n 2, 1) := dqr0 dqK_32 dqw_cX0_stockAround_45 6 rfl rfl
theorem dX0_stockAround_52 : decode cX0_stockAround 52 = .ok (.lreturn, 1) := dqr0 dqK_173 dqw_cX0_stockAround_45 7 rfl rfl
theorem dqw_cX0_commonStock_0 : dqLF cX0_commonStock 0 [42, 180, 0, 18, 154, 0, 5, 9, 173, 42, 180, 0, 41, 3, 47, 64, 4, 62, 29, 42, 180, 0, 18] := by decide +kernel
theorem dX0_commonStock_0 : decode cX0_commonStock 0 = .ok (.aload_n 0, 1) := dqr0 dqK_42 dqw_cX0_commonStock_0 0 rfl rfl
theorem dX0_commonStock_1 : decode cX0_commonStock 1 = .ok (.getfield 18, 3) := dqr2 dqK_180 dqw_cX0_commonStock_0 1 rfl rfl rfl rfl rfl
theorem dX0_commonStock_4 : decode cX0_commonStock 4 = .ok (.ifCond .ne 5, 3) := dqrs2 dqK_154 dqw_cX0_commonStock_0 4 rfl rfl rfl rfl (by decide)
theorem dX0_commonStock_7 : decode cX0_commonStock 7 = .ok (.lconst 0, 1) := dqr0 dqK_9 dqw_cX0_commonStock_0 7 rfl rfl
theorem dX0_commonStock_8 : decode cX0_commonStock 8 = .ok (.lreturn, 1) := dqr0 dqK_173 dqw_cX0_commonStock_0 8 rfl rfl
theorem dX0_commonStock_9 : decode cX0_commonStock 9 = .ok (.aload_n 0, 1) := dqr0 dqK_42 dqw_cX0_commonStock_0 9 rfl rfl
theorem dX0_commonStock_10 : decode cX0_commonStock 10 = .ok (.getfield 41, 3) := dqr2 dqK_180 dqw_cX0_commonStock_0 10 rfl rfl rfl rfl rfl
theorem dX0_commonStock_13 : decode cX0_commonStock 13 = .ok (.iconst 0, 1) := dqr0 dqK_3 dqw_cX0_commonStock_0 13 rfl rfl
theorem dX0_commonStock_14 : decode cX0_commonStock 14 = .ok (.laload, 1) := dqr0 dqK_47 dqw_cX0_commonStock_0 14 rfl rfl
theorem dX0_commonStock_15 : decode cX0_commonStock 15 = .ok (.lstore_n 1, 1) := dqr0 dqK_64 dqw_cX0_commonStock_0 15 rfl rfl
theorem dX0_commonStock_16 : decode cX0_commonStock 16 = .ok (.iconst 1, 1) := dqr0 dqK_4 dqw_cX0_commonStock_0 16 rfl rfl
theorem dX0_commonStock_17 : decode cX0_commonStock 17 = .ok (.istore_n 3, 1) := dqr0 dqK_62 dqw_cX0_commonStock_0 17 rfl rfl
theorem dX0_commonStock_18 : decode cX0_commonStock 18 = .ok (.iload_n 3, 1) := dqr0 dqK_29 dqw_cX0_commonStock_0 18 rfl rfl
theorem dX0_commonStock_19 : decode cX0_commonStock 19 = .ok (.aload_n 0, 1) := dqr0 dqK_42 dqw_cX0_commonStock_0 19 rfl rfl
theorem dX0_commonStock_20 : decode cX0_commonStock 20 = .ok (.getfield 18, 3) := dqr2 dqK_180 dqw_cX0_commonStock_0 20 rfl rfl rfl rfl rfl
theorem dqw_cX0_commonStock_23 : dqLF cX0_commonStock 23 [162, 0, 18, 31, 42, 180, 0, 41, 29, 47, 127, 64, 132, 3, 1, 167, 255, 236, 31, 173] := by decide +kernel
theorem dX0_commonStock_23 : decode cX0_commonStock 23 = .ok (.if_icmp .ge 18, 3) := dqrs2 dqK_162 dqw_cX0_commonStock_23 0 rfl rfl rfl rfl (by decide)
theorem dX0_commonStock_26 : decode cX0_commonStock 26 = .ok (.lload_n 1, 1) := dqr0 dqK_31 dqw_cX0_commonStock_23 3 rfl rfl
theorem dX0_commonStock_27 : decode cX0_commonStock 27 = .ok (.aload_n 0, 1) := dqr0 dqK_42 dqw_cX0_commonStock_23 4 rfl rfl
theorem dX0_commonStock_28 : decode cX0_commonStock 28 = .ok (.getfield 41, 3) := dqr2 dqK_180 dqw_cX0_commonStock_23 5 rfl rfl rfl rfl rfl
theorem dX0_commonStock_31 : decode cX0_commonStock 31 = .ok (.iload_n 3, 1) := dqr0 dqK_29 dqw_cX0_commonStock_23 8 rfl rfl
theorem dX0_commonStock_32 : decode cX0_commonStock 32 = .ok (.laload, 1) := dqr0 dqK_47 dqw_cX0_commonStock_23 9 rfl rfl
theorem dX0_commonStock_33 : decode cX0_commonStock 33 = .ok (.land, 1) := dqr0 dqK_127 dqw_cX0_commonStock_23 10 rfl rfl
theorem dX0_commonStock_34 : decode cX0_commonStock 34 = .ok (.lstore_n 1, 1) := dqr0 dqK_64 dqw_cX0_commonStock_23 11 rfl rfl
theorem dX0_commonStock_35 : decode cX0_commonStock 35 = .ok (.iinc 3 1, 3) := dqri dqK_132 dqw_cX0_commonStock_23 12 rfl rfl rfl rfl (by decide)
theorem dX0_commonStock_38 : decode cX0_commonStock 38 = .ok (.goto (-20), 3) := dqrs2 dqK_167 dqw_cX0_commonStock_23 15 rfl rfl rfl rfl (by decide)
theorem dX0_commonStock_41 : decode cX0_commonStock 41 = .ok (.lload_n 1, 1) := dqr0 dqK_31 dqw_cX0_commonStock_23 18 rfl rfl
theorem dX0_commonStock_42 : decode cX0_commonStock 42 = .ok (.lreturn, 1) := dqr0 dqK_173 dqw_cX0_commonStock_23 19 rfl rfl
theorem dqw_cX0_villageWithMost_0 : dqLF cX0_villageWithMost 0 [42, 180, 0, 45, 3, 184, 0, 48, 3, 61, 28, 42, 180, 0, 18, 162, 0, 33, 42, 180, 0, 45, 42] := by decide +kernel
theorem dX0_villageWithMost_0 : decode cX0_villageWithMost 0 = .ok (.aload_n 0, 1) := dqr0 dqK_42 dqw_cX0_villageWithMost_0 0 rfl rfl
theorem dX0_villageWithMost_1 : decode cX0_villageWithMost 1 = .ok (.getfield 45, 3) := dqr2 dqK_180 dqw_cX0_villageWithMost_0 1 rfl rfl rfl rfl rfl
theorem dX0_villageWithMost_4 : decode cX0_villageWithMost 4 = .ok (.iconst 0, 1) := dqr0 dqK_3 dqw_cX0_villageWithMost_0 4 rfl rfl
theorem dX0_villageWithMost_5 : decode cX0_villageWithMost 5 = .ok (.invokestatic 48, 3) := dqr2 dqK_184 dqw_cX0_villageWithMost_0 5 rfl rfl rfl rfl rfl
theorem dX0_villageWithMost_8 : decode cX0_villageWithMost 8 = .ok (.iconst 0, 1) := dqr0 dqK_3 dqw_cX0_villageWithMost_0 8 rfl rfl
theorem dX0_villageWithMost_9 : decode cX0_villageWithMost 9 = .ok (.istore_n 2, 1) := dqr0 dqK_61 dqw_cX0_villageWithMost_0 9 rfl rfl
theorem dX0_villageWithMost_10 : decode cX0_villageWithMost 10 = .ok (.iload_n 2, 1) := dqr0 dqK_28 dqw_cX0_villageWithMost_0 10 rfl rfl
theorem dX0_villageWithMost_11 : decode cX0_villageWithMost 11 = .ok (.aload_n 0, 1) := dqr0 dqK_42 dqw_cX0_villageWithMost_0 11 rfl rfl
theorem dX0_villageWithMost_12 : decode cX0_villageWithMost 12 = .ok (.getfield 18, 3) := dqr2 dqK_180 dqw_cX0_villageWithMost_0 12 rfl rfl rfl rfl rfl
theorem dX0_villageWithMost_15 : decode cX0_villageWithMost 15 = .ok (.if_icmp .ge 33, 3) := dqrs2 dqK_162 dqw_cX0_villageWithMost_0 15 rfl rfl rfl rfl (by decide)
theorem dX0_villageWithMost_18 : decode cX0_villageWithMost 18 = .ok (.aload_n 0, 1) := dqr0 dqK_42 dqw_cX0_villageWithMost_0 18 rfl rfl
theorem dX0_villageWithMost_19 : decode cX0_villageWithMost 19 = .ok (.getfield 45, 3) := dqr2 dqK_180 dqw_cX0_villageWithMost_0 19 rfl rfl rfl rfl rfl
theorem dX0_villageWithMost_22 : decode cX0_villageWithMost 22 = .ok (.aload_n 0, 1) := dqr0 dqK_42 dqw_cX0_villageWithMost_0 22 rfl rfl
theorem dqw_cX0_villageWithMost_23 : dqLF cX0_villageWithMost 23 [180, 0, 15, 28, 46, 92, 46, 42, 180, 0, 41, 28, 47, 27, 184, 0, 82, 96, 79, 132, 2, 1] := by decide +kernel
theorem dX0_villageWithMost_23 : decode cX0_villageWithMost 23 = .ok (.getfield 15, 3) := dqr2 dqK_180 dqw_cX0_villageWithMost_23 0 rfl rfl rfl rfl rfl
theorem dX0_villageWithMost_26 : decode cX0_villageWithMost 26 = .ok (.iload_n 2, 1) := dqr0 dqK_28 dqw_cX0_villageWithMost_23 3 rfl rfl
theorem dX0_villageWithMost_27 : decode cX0_villageWithMost 27 = .ok (.iaload, 1) := dqr0 dqK_46 dqw_cX0_villageWithMost_23 4 rfl rfl
theorem dX0_villageWithMost_28 : decode cX0_villageWithMost 28 = .ok (.dup2, 1) := dqr0 dqK_92 dqw_cX0_villageWithMost_23 5 rfl rfl
theorem dX0_villageWithMost_29 : decode cX0_villageWithMost 29 = .ok (.iaload, 1) := dqr0 dqK_46 dqw_cX0_villageWithMost_23 6 rfl rfl
theorem dX0_villageWithMost_30 : decode cX0_villageWithMost 30 = .ok (.aload_n 0, 1) := dqr0 dqK_42 dqw_cX0_villageWithMost_23 7 rfl rfl
theorem dX0_villageWithMost_31 : decode cX0_villageWithMost 31 = .ok (.getfield 41, 3) := dqr2 dqK_180 dqw_cX0_villageWithMost_23 8 rfl rfl rfl rfl rfl
theorem dX0_villageWithMost_34 : decode cX0_villageWithMost 34 = .ok (.iload_n 2, 1) := dqr0 dqK_28 dqw_cX0_villageWithMost_23 11 rfl rfl
theorem dX0_villageWithMost_35 : decode cX0_villageWithMost 35 = .ok (.laload, 1) := dqr0 dqK_47 dqw_cX0_villageWithMost_23 12 rfl rfl
theorem dX0_villageWithMost_36 : decode cX0_villageWithMost 36 = .ok (.iload_n 1, 1) := dqr0 dqK_27 dqw_cX0_villageWithMost_23 13 rfl rfl
theorem dX0_villageWithMost_37 : decode cX0_villageWithMost 37 = .ok (.invokestatic 82, 3) := dqr2 dqK_184 dqw_cX0_villageWithMost_23 14 rfl rfl rfl rfl rfl
theorem dX0_villageWithMost_40 : decode cX0_villageWithMost 40 = .ok (.iadd, 1) := dqr0 dqK_96 dqw_cX0_villageWithMost_23 17 rfl rfl
theorem dX0_villageWithMost_41 : decode cX0_villageWithMost 41 = .ok (.iastore, 1) := dqr0 dqK_79 dqw_cX0_villageWithMost_23 18 rfl rfl
theorem dX0_villageWithMost_42 : decode cX0_villageWithMost 42 = .ok (.iinc 2 1, 3) := dqri dqK_132 dqw_cX0_villageWithMost_23 19 rfl rfl rfl rfl (by decide)
theorem dqw_cX0_villageWithMost_45 : dqLF cX0_villageWithMost 45 [167, 255, 221, 3, 61, 4, 62, 29, 16, 10, 162, 0, 26, 42, 180, 0, 45, 29, 46, 42, 180, 0, 45, 28] := by decide +kernel
theorem dX0_villageWithMost_45 : decode cX0_villageWithMost 45 = .ok (.goto (-35), 3) := dqrs2 dqK_167 dqw_cX0_villageWithMost_45 0 rfl rfl rfl rfl (by decide)
theorem dX0_villageWithMost_48 : decode cX0_villageWithMost 48 = .ok (.iconst 0, 1) := dqr0 dqK_3 dqw_cX0_villageWithMost_45 3 rfl rfl
theorem dX0_villageWithMost_49 : decode cX0_villageWithMost 49 = .ok (.istore_n 2, 1) := dqr0 dqK_61 dqw_cX0_villageWithMost_45 4 rfl rfl
theorem dX0_villageWithMost_50 : decode cX0_villageWithMost 50 = .ok (.iconst 1, 1) := dqr0 dqK_4 dqw_cX0_villageWithMost_45 5 rfl rfl
theorem dX0_villageWithMost_51 : decode cX0_villageWithMost 51 = .ok (.istore_n 3, 1) := dqr0 dqK_62 dqw_cX0_villageWithMost_45 6 rfl rfl
theorem dX0_villageWithMost_52 : decode cX0_villageWithMost 52 = .ok (.iload_n 3, 1) := dqr0 dqK_29 dqw_cX0_villageWithMost_45 7 rfl rfl
theorem dX0_villageWithMost_53 : decode cX0_villageWithMost 53 = .ok (.bipush 10, 2) := dqrs1 dqK_16 dqw_cX0_villageWithMost_45 8 rfl rfl rfl (by decide)
theorem dX0_villageWithMost_55 : decode cX0_villageWithMost 55 = .ok (.if_icmp .ge 26, 3) := dqrs2 dqK_162 dqw_cX0_villageWithMost_45 10 rfl rfl rfl rfl (by decide)
theorem dX0_villageWithMost_58 : decode cX0_villageWithMost 58 = .ok (.aload_n 0, 1) := dqr0 dqK_42 dqw_cX0_villageWithMost_45 13 rfl rfl
theorem dX0_villageWithMost_59 : decode cX0_villageWithMost 59 = .ok (.getfield 45, 3) := dqr2 dqK_180 dqw_cX0_villageWithMost_45 14 rfl rfl rfl rfl rfl
theorem dX0_villageWithMost_62 : decode cX0_villageWithMost 62 = .ok (.iload_n 3, 1) := dqr0 dqK_29 dqw_cX0_villageWithMost_45 17 rfl rfl
theorem dX0_villageWithMost_63 : decode cX0_villageWithMost 63 = .ok (.iaload, 1) := dqr0 dqK_46 dqw_cX0_villageWithMost_45 18 rfl rfl
theorem dX0_villageWithMost_64 : decode cX0_villageWithMost 64 = .ok (.aload_n 0, 1) := dqr0 dqK_42 dqw_cX0_villageWithMost_45 19 rfl rfl
theorem dX0_villageWithMost_65 : decode cX0_villageWithMost 65 = .ok (.getfield 45, 3) := dqr2 dqK_180 dqw_cX0_villageWithMost_45 20 rfl rfl rfl rfl rfl
theorem dX0_villageWithMost_68 : decode cX0_villageWithMost 68 = .ok (.iload_n 2, 1) := dqr0 dqK_28 dqw_cX0_villageWithMost_45 23 rfl rfl
theorem dqw_cX0_villageWithMost_69 : dqLF cX0_villageWithMost 69 [46, 164, 0, 5, 29, 61, 132, 3, 1, 167, 255, 230, 42, 180, 0, 45, 28, 46, 154, 0, 8, 16, 251] := by decide +kernel
theorem dX0_villageWithMost_69 : decode cX0_villageWithMost 69 = .ok (.iaload, 1) := dqr0 dqK_46 dqw_cX0_villageWithMost_69 0 rfl rfl
theorem dX0_villageWithMost_70 : decode cX0_villageWithMost 70 = .ok (.if_icmp .le 5, 3) := dqrs2 dqK_164 dqw_cX0_villageWithMost_69 1 rfl rfl rfl rfl (by decide)
theorem dX0_villageWithMost_73 : decode cX0_villageWithMost 73 = .ok (.iload_n 3, 1) := dqr0 dqK_29 dqw_cX0_villageWithMost_69 4 rfl rfl
theorem dX0_villageWithMost_74 : decode cX0_villageWithMost 74 = .ok (.istore_n 2, 1) := dqr0 dqK_61 dqw_cX0_villageWithMost_69 5 rfl rfl
theorem dX0_villageWithMost_75 : decode cX0_villageWithMost 75 = .ok (.iinc 3 1, 3) := dqri dqK_132 dqw_cX0_villageWithMost_69 6 rfl rfl rfl rfl (by decide)
theorem dX0_villageWithMost_78 : decode cX0_villageWithMost 78 = .ok (.goto (-26), 3) := dqrs2 dqK_167 dqw_cX0_villageWithMost_69 9 rfl rfl rfl rfl (by decide)
theorem dX0_villageWithMost_81 : decode cX0_villageWithMost 81 = .ok (.aload_n 0, 1) := dqr0 dqK_42 dqw_cX0_villageWithMost_69 12 rfl rfl
theorem dX0_villageWithMost_82 : decode cX0_villageWithMost 82 = .ok (.getfield 45, 3) := dqr2 dqK_180 dqw_cX0_villageWithMost_69 13 rfl rfl rfl rfl rfl
theorem dX0_villageWithMost_85 : decode cX0_villageWithMost 85 = .ok (.iload_n 2, 1) := dqr0 dqK_28 dqw_cX0_villageWithMost_69 16 rfl rfl
theorem dX0_villageWithMost_86 : decode cX0_villageWithMost 86 = .ok (.iaload, 1) := dqr0 dqK_46 dqw_cX0_villageWithMost_69 17 rfl rfl
theorem dX0_villageWithMost_87 : decode cX0_villageWithMost 87 = .ok (.ifCond .ne 8, 3) := dqrs2 dqK_154 dqw_cX0_villageWithMost_69 18 rfl rfl rfl rfl (by decide)
theorem dX0_villageWithMost_90 : decode cX0_villageWithMost 90 = .ok (.bipush (-5), 2) := dqrs1 dqK_16 dqw_cX0_villageWithMost_69 21 rfl rfl rfl (by decide)
theorem dqw_cX0_villageWithMost_92 : dqLF cX0_villageWithMost 92 [167, 0, 4, 28, 172] := by decide +kernel
theorem dX0_villageWithMost_92 : decode cX0_villageWithMost 92 = .ok (.goto 4, 3) := dqrs2 dqK_167 dqw_cX0_villageWithMost_92 0 rfl rfl rfl rfl (by decide)
theorem dX0_villageWithMost_95 : decode cX0_villageWithMost 95 = .ok (.iload_n 2, 1) := dqr0 dqK_28 dqw_cX0_villageWithMost_92 3 rfl rfl
theorem dX0_villageWithMost_96 : decode cX0_villageWithMost 96 = .ok (.ireturn, 1) := dqr0 dqK_172 dqw_cX0_villageWithMost_92 4 rfl rfl
theorem dqw_cX1_init_0 : dqLF cX1_init 0 [42, 183, 0, 3, 42, 17, 48, 62] := by decide +kernel
theorem dX1_init_0 : decode cX1_init 0 = .ok (.aload_n 0, 1) := dqr0 dqK_42 dqw_cX1_init_0 0 rfl rfl
theorem dX1_init_1 : decode cX1_init 1 = .ok (.invokespecial 3, 3) := dqr2 dqK_183 dqw_cX1_init_0 1 rfl rfl rfl rfl rfl
theorem dX1_init_4 : decode cX1_init 4 = .ok (.aload_n 0, 1) := dqr0 dqK_42 dqw_cX1_init_0 4 rfl rfl
theorem dX1_init_5 : decode cX1_init 5 = .ok (.sipush 12350, 3) := dqrs2 dqK_17 dqw_cX1_init_0 5 rfl rfl rfl rfl (by decide)
theorem dX1_init_8 : decode cX1_init 8 = .ok (.newarray .int, 2) := by decide +kernel
theorem dqw_cX1_init_10 : dqLF cX1_init 10 [181, 0, 11, 42, 17, 0, 192] := by decide +kernel
theorem dX1_init_10 : decode cX1_init 10 = .ok (.putfield 11, 3) := dqr2 dqK_181 dqw_cX1_init_10 0 rfl rfl rfl rfl rfl
theorem dX1_init_13 : decode cX1_init 13 = .ok (.aload_n 0, 1) := dqr0 dqK_42 dqw_cX1_init_10 3 rfl rfl
theorem dX1_init_14 : decode cX1_init 14 = .ok (.sipush 192, 3) := dqrs2 dqK_17 dqw_cX1_init_10 4 rfl rfl rfl rfl (by decide)
theorem dX1_init_17 : decode cX1_init 17 = .ok (.newarray .int, 2) := by decide +kernel
theorem dqw_cX1_init_19 : dqLF cX1_init 19 [181, 0, 15, 42, 9, 181, 0, 18, 42, 3, 181, 0, 22, 42, 16, 8, 181, 0, 26, 42, 43, 181, 0, 29] := by decide +kernel
theorem dX1_init_19 : decode cX1_init 19 = .ok (.putfield 15, 3) := dqr2 dqK_181 dqw_cX1_init_19 0 rfl rfl rfl rfl rfl
theorem dX1_init_22 : decode cX1_init 22 = .ok (.aload_n 0, 1) := dqr0 dqK_42 dqw_cX1_init_19 3 rfl rfl
theorem dX1_init_23 : decode cX1_init 23 = .ok (.lconst 0, 1) := dqr0 dqK_9 dqw_cX1_init_19 4 rfl rfl
theorem dX1_init_24 : decode cX1_init 24 = .ok (.putfield 18, 3) := dqr2 dqK_181 dqw_cX1_init_19 5 rfl rfl rfl rfl rfl
theorem dX1_init_27 : decode cX1_init 27 = .ok (.aload_n 0, 1) := dqr0 dqK_42 dqw_cX1_init_19 8 rfl rfl
theorem dX1_init_28 : decode cX1_init 28 = .ok (.iconst 0, 1) := dqr0 dqK_3 dqw_cX1_init_19 9 rfl rfl
theorem dX1_init_29 : decode cX1_init 29 = .ok (.putfield 22, 3) := dqr2 dqK_181 dqw_cX1_init_19 10 rfl rfl rfl rfl rfl
theorem dX1_init_32 : decode cX1_init 32 = .ok (.aload_n 0, 1) := dqr0 dqK_42 dqw_cX1_init_19 13 rfl rfl
theorem dX1_init_33 : decode cX1_init 33 = .ok (.bipush 8, 2) := dqrs1 dqK_16 dqw_cX1_init_19 14 rfl rfl rfl (by decide)
theorem dX1_init_35 : decode cX1_init 35 = .ok (.putfield 26, 3) := dqr2 dqK_181 dqw_cX1_init_19 16 rfl rfl rfl rfl rfl
theorem dX1_init_38 : decode cX1_init 38 = .ok (.aload_n 0, 1) := dqr0 dqK_42 dqw_cX1_init_19 19 rfl rfl
theorem dX1_init_39 : decode cX1_init 39 = .ok (.aload_n 1, 1) := dqr0 dqK_43 dqw_cX1_init_19 20 rfl rfl
theorem dX1_init_40 : decode cX1_init 40 = .ok (.putfield 29, 3) := dqr2 dqK_181 dqw_cX1_init_19 21 rfl rfl rfl rfl rfl
theorem dqw_cX1_init_43 : dqLF cX1_init 43 [42, 44, 181, 0, 33, 177] := by decide +kernel
theorem dX1_init_43 : decode cX1_init 43 = .ok (.aload_n 0, 1) := dqr0 dqK_42 dqw_cX1_init_43 0 rfl rfl
theorem dX1_init_44 : decode cX1_init 44 = .ok (.aload_n 2, 1) := dqr0 dqK_44 dqw_cX1_init_43 1 rfl rfl
theorem dX1_init_45 : decode cX1_init 45 = .ok (.putfield 33, 3) := dqr2 dqK_181 dqw_cX1_init_43 2 rfl rfl rfl rfl rfl
theorem dX1_init_48 : decode cX1_init 48 = .ok (.return_, 1) := dqr0 dqK_177 dqw_cX1_init_43 5 rfl rfl
theorem dqw_cX1_take_0 : dqLF cX1_take 0 [42, 22, 4, 181, 0, 18, 42, 29, 181, 0, 22, 3, 54, 6, 21, 6, 29, 162, 0, 85, 43, 28, 21, 6] := by decide +kernel
theorem dX1_take_0 : decode cX1_take 0 = .ok (.aload_n 0, 1) := dqr0 dqK_42 dqw_cX1_take_0 0 rfl rfl
theorem dX1_take_1 : decode cX1_take 1 = .ok (.lload 4, 2) := dqr1 dqK_22 dqw_cX1_take_0 1 rfl rfl rfl
theorem dX1_take_3 : decode cX1_take 3 = .ok (.putfield 18, 3) := dqr2 dqK_181 dqw_cX1_take_0 3 rfl rfl rfl rfl rfl
theorem dX1_take_6 : decode cX1_take 6 = .ok (.aload_n 0, 1) := dqr0 dqK_42 dqw_cX1_take_0 6 rfl rfl
theorem dX1_take_7 : decode cX1_take 7 = .ok (.iload_n 3, 1) := dqr0 dqK_29 dqw_cX1_take_0 7 rfl rfl
theorem dX1_take_8 : decode cX1_take 8 = .ok (.putfield 22, 3) := dqr2 dqK_181 dqw_cX1_take_0 8 rfl rfl rfl rfl rfl
theorem dX1_take_11 : decode cX1_take 11 = .ok (.iconst 0, 1) := dqr0 dqK_3 dqw_cX1_take_0 11 rfl rfl
theorem dX1_take_12 : decode cX1_take 12 = .ok (.istore 6, 2) := dqr1 dqK_54 dqw_cX1_take_0 12 rfl rfl rfl
theorem dX1_take_14 : decode cX1_take 14 = .ok (.iload 6, 2) := dqr1 dqK_21 dqw_cX1_take_0 14 rfl rfl rfl
theorem dX1_take_16 : decode cX1_take 16 = .ok (.iload_n 3, 1) := dqr0 dqK_29 dqw_cX1_take_0 16 rfl rfl
theorem dX1_take_17 : decode cX1_take 17 = .ok (.if_icmp .ge 85, 3) := dqrs2 dqK_162 dqw_cX1_take_0 17 rfl rfl rfl rfl (by decide)
theorem dX1_take_20 : decode cX1_take 20 = .ok (.aload_n 1, 1) := dqr0 dqK_43 dqw_cX1_take_0 20 rfl rfl
theorem dX1_take_21 : decode cX1_take 21 = .ok (.iload_n 2, 1) := dqr0 dqK_28 dqw_cX1_take_0 21 rfl rfl
theorem dX1_take_22 : decode cX1_take 22 = .ok (.iload 6, 2) := dqr1 dqK_21 dqw_cX1_take_0 22 rfl rfl rfl
theorem dqw_cX1_take_24 : dqLF cX1_take 24 [96, 46, 54, 7, 3, 54, 8, 21, 8, 16, 8, 162, 0, 61, 42, 180, 0, 18, 42, 180, 0, 29] := by decide +kernel
theorem dX1_take_24 : decode cX1_take 24 = .ok (.iadd, 1) := dqr0 dqK_96 dqw_cX1_take_24 0 rfl rfl
theorem dX1_take_25 : decode cX1_take 25 = .ok (.iaload, 1) := dqr0 dqK_46 dqw_cX1_take_24 1 rfl rfl
theorem dX1_take_26 : decode cX1_take 26 = .ok (.istore 7, 2) := dqr1 dqK_54 dqw_cX1_take_24 2 rfl rfl rfl
theorem dX1_take_28 : decode cX1_take 28 = .ok (.iconst 0, 1) := dqr0 dqK_3 dqw_cX1_take_24 4 rfl rfl
theorem dX1_take_29 : decode cX1_take 29 = .ok (.istore 8, 2) := dqr1 dqK_54 dqw_cX1_take_24 5 rfl rfl rfl
theorem dX1_take_31 : decode cX1_take 31 = .ok (.iload 8, 2) := dqr1 dqK_21 dqw_cX1_take_24 7 rfl rfl rfl
theorem dX1_take_33 : decode cX1_take 33 = .ok (.bipush 8, 2) := dqrs1 dqK_16 dqw_cX1_take_24 9 rfl rfl rfl (by decide)
theorem dX1_take_35 : decode cX1_take 35 = .ok (.if_icmp .ge 61, 3) := dqrs2 dqK_162 dqw_cX1_take_24 11 rfl rfl rfl rfl (by decide)
theorem dX1_take_38 : decode cX1_take 38 = .ok (.aload_n 0, 1) := dqr0 dqK_42 dqw_cX1_take_24 14 rfl rfl
theorem dX1_take_39 : decode cX1_take 39 = .ok (.getfield 18, 3) := dqr2 dqK_180 dqw_cX1_take_24 15 rfl rfl rfl rfl rfl
theorem dX1_take_42 : decode cX1_take 42 = .ok (.aload_n 0, 1) := dqr0 dqK_42 dqw_cX1_take_24 18 rfl rfl
theorem dX1_take_43 : decode cX1_take 43 = .ok (.getfield 29, 3) := dqr2 dqK_180 dqw_cX1_take_24 19 rfl rfl rfl rfl rfl
theorem dqw_cX1_take_46 : dqLF cX1_take 46 [180, 0, 37, 21, 8, 47, 127, 55, 9, 42, 180, 0, 15, 21, 6, 16, 8, 104, 21, 8, 96, 21, 7] := by decide +kernel
theorem dX1_take_46 : decode cX1_take 46 = .ok (.getfield 37, 3) := dqr2 dqK_180 dqw_cX1_take_46 0 rfl rfl rfl rfl rfl
theorem dX1_take_49 : decode cX1_take 49 = .ok (.iload 8, 2) := dqr1 dqK_21 dqw_cX1_take_46 3 rfl rfl rfl
theorem dX1_take_51 : decode cX1_take 51 = .ok (.laload, 1) := dqr0 dqK_47 dqw_cX1_take_46 5 rfl rfl
theorem dX1_take_52 : decode cX1_take 52 = .ok (.land, 1) := dqr0 dqK_127 dqw_cX1_take_46 6 rfl rfl
theorem dX1_take_53 : decode cX1_take 53 = .ok (.lstore 9, 2) := dqr1 dqK_55 dqw_cX1_take_46 7 rfl rfl rfl
theorem dX1_take_55 : decode cX1_take 55 = .ok (.aload_n 0, 1) := dqr0 dqK_42 dqw_cX1_take_46 9 rfl rfl
theorem dX1_take_56 : decode cX1_take 56 = .ok (.getfield 15, 3) := dqr2 dqK_180 dqw_cX1_take_46 10 rfl rfl rfl rfl rfl
theorem dX1_take_59 : decode cX1_take 59 = .ok (.iload 6, 2) := dqr1 dqK_21 dqw_cX1_take_46 13 rfl rfl rfl
theorem dX1_take_61 : decode cX1_take 61 = .ok (.bipush 8, 2) := dqrs1 dqK_16 dqw_cX1_take_46 15 rfl rfl rfl (by decide)
theorem dX1_take_63 : decode cX1_take 63 = .ok (.imul, 1) := dqr0 dqK_104 dqw_cX1_take_46 17 rfl rfl
theorem dX1_take_64 : decode cX1_take 64 = .ok (.iload 8, 2) := dqr1 dqK_21 dqw_cX1_take_46 18 rfl rfl rfl
theorem dX1_take_66 : decode cX1_take 66 = .ok (.iadd, 1) := dqr0 dqK_96 dqw_cX1_take_46 20 rfl rfl
theorem dX1_take_67 : decode cX1_take 67 = .ok (.iload 7, 2) := dqr1 dqK_21 dqw_cX1_take_46 21 rfl rfl rfl
theorem dqw_cX1_take_69 : dqLF cX1_take 69 [16, 40, 160, 0, 11, 22, 9, 184, 0, 43, 167, 0, 10, 22, 9, 21, 7, 184, 0, 49, 79, 132, 8, 1] := by decide +kernel
theorem dX1_take_69 : decode cX1_take 69 = .ok (.bipush 40, 2) := dqrs1 dqK_16 dqw_cX1_take_69 0 rfl rfl rfl (by decide)
theorem dX1_take_71 : decode cX1_take 71 = .ok (.if_icmp .ne 11, 3) := dqrs2 dqK_160 dqw_cX1_take_69 2 rfl rfl rfl rfl (by decide)
theorem dX1_take_74 : decode cX1_take 74 = .ok (.lload 9, 2) := dqr1 dqK_22 dqw_cX1_take_69 5 rfl rfl rfl
theorem dX1_take_76 : decode cX1_take 76 = .ok (.invokestatic 43, 3) := dqr2 dqK_184 dqw_cX1_take_69 7 rfl rfl rfl rfl rfl
theorem dX1_take_79 : decode cX1_take 79 = .ok (.goto 10, 3) := dqrs2 dqK_167 dqw_cX1_take_69 10 rfl rfl rfl rfl (by decide)
theorem dX1_take_82 : decode cX1_take 82 = .ok (.lload 9, 2) := dqr1 dqK_22 dqw_cX1_take_69 13 rfl rfl rfl
theorem dX1_take_84 : decode cX1_take 84 = .ok (.iload 7, 2) := dqr1 dqK_21 dqw_cX1_take_69 15 rfl rfl rfl
theorem dX1_take_86 : decode cX1_take 86 = .ok (.invokestatic 49, 3) := dqr2 dqK_184 dqw_cX1_take_69 17 rfl rfl rfl rfl rfl
theorem dX1_take_89 : decode cX1_take 89 = .ok (.iastore, 1) := dqr0 dqK_79 dqw_cX1_take_69 20 rfl rfl
theorem dX1_take_90 : decode cX1_take 90 = .ok (.iinc 8 1, 3) := dqri dqK_132 dqw_cX1_take_69 21 rfl rfl rfl rfl (by decide)
theorem dqw_cX1_take_93 : dqLF cX1_take 93 [167, 255, 194, 132, 6, 1, 167, 255, 171, 177] := by decide +kernel
theorem dX1_take_93 : decode cX1_take 93 = .ok (.goto (-62), 3) := dqrs2 dqK_167 dqw_cX1_take_93 0 rfl rfl rfl rfl (by decide)
theorem dX1_take_96 : decode cX1_take 96 = .ok (.iinc 6 1, 3) := dqri dqK_132 dqw_cX1_take_93 3 rfl rfl rfl rfl (by decide)
theorem dX1_take_99 : decode cX1_take 99 = .ok (.goto (-85), 3) := dqrs2 dqK_167 dqw_cX1_take_93 6 rfl rfl rfl rfl (by decide)
theorem dX1_take_102 : decode cX1_take 102 = .ok (.return_, 1) := dqr0 dqK_177 dqw_cX1_take_93 9 rfl rfl
theorem dqw_cX1_allowOnly_0 : dqLF cX1_allowOnly 0 [3, 62, 29, 16, 8, 162, 0, 30, 42, 180, 0, 15, 27, 16, 8, 104, 29, 96, 29, 28, 160, 0, 7, 4] := by decide +kernel
theorem dX1_allowOnly_0 : decode cX1_allowOnly 0 = .ok (.iconst 0, 1) := dqr0 dqK_3 dqw_cX1_allowOnly_0 0 rfl rfl
theorem dX1_allowOnly_1 : decode cX1_allowOnly 1 = .ok (.istore_n 3, 1) := dqr0 dqK_62 dqw_cX1_allowOnly_0 1 rfl rfl
theorem dX1_allowOnly_2 : decode cX1_allowOnly 2 = .ok (.iload_n 3, 1) := dqr0 dqK_29 dqw_cX1_allowOnly_0 2 rfl rfl
theorem dX1_allowOnly_3 : decode cX1_allowOnly 3 = .ok (.bipush 8, 2) := dqrs1 dqK_16 dqw_cX1_allowOnly_0 3 rfl rfl rfl (by decide)
theorem dX1_allowOnly_5 : decode cX1_allowOnly 5 = .ok (.if_icmp .ge 30, 3) := dqrs2 dqK_162 dqw_cX1_allowOnly_0 5 rfl rfl rfl rfl (by decide)
theorem dX1_allowOnly_8 : decode cX1_allowOnly 8 = .ok (.aload_n 0, 1) := dqr0 dqK_42 dqw_cX1_allowOnly_0 8 rfl rfl
theorem dX1_allowOnly_9 : decode cX1_allowOnly 9 = .ok (.getfield 15, 3) := dqr2 dqK_180 dqw_cX1_allowOnly_0 9 rfl rfl rfl rfl rfl
theorem dX1_allowOnly_12 : decode cX1_allowOnly 12 = .ok (.iload_n 1, 1) := dqr0 dqK_27 dqw_cX1_allowOnly_0 12 rfl rfl
theorem dX1_allowOnly_13 : decode cX1_allowOnly 13 = .ok (.bipush 8, 2) := dqrs1 dqK_16 dqw_cX1_allowOnly_0 13 rfl rfl rfl (by decide)
theorem dX1_allowOnly_15 : decode cX1_allowOnly 15 = .ok (.imul, 1) := dqr0 dqK_104 dqw_cX1_allowOnly_0 15 rfl rfl
theorem dX1_allowOnly_16 : decode cX1_allowOnly 16 = .ok (.iload_n 3, 1) := dqr0 dqK_29 dqw_cX1_allowOnly_0 16 rfl rfl
theorem dX1_allowOnly_17 : decode cX1_allowOnly 17 = .ok (.iadd, 1) := dqr0 dqK_96 dqw_cX1_allowOnly_0 17 rfl rfl
theorem dX1_allowOnly_18 : decode cX1_allowOnly 18 = .ok (.iload_n 3, 1) := dqr0 dqK_29 dqw_cX1_allowOnly_0 18 rfl rfl
theorem dX1_allowOnly_19 : decode cX1_allowOnly 19 = .ok (.iload_n 2, 1) := dqr0 dqK_28 dqw_cX1_allowOnly_0 19 rfl rfl
theorem dX1_allowOnly_20 : decode cX1_allowOnly 20 = .ok (.if_icmp .ne 7, 3) := dqrs2 dqK_160 dqw_cX1_allowOnly_0 20 rfl rfl rfl rfl (by decide)
theorem dX1_allowOnly_23 : decode cX1_allowOnly 23 = .ok (.iconst 1, 1) := dqr0 dqK_4 dqw_cX1_allowOnly_0 23 rfl rfl
theorem dqw_cX1_allowOnly_24 : dqLF cX1_allowOnly 24 [167, 0, 4, 3, 79, 132, 3, 1, 167, 255, 226, 177] := by decide +kernel
theorem dX1_allowOnly_24 : decode cX1_allowOnly 24 = .ok (.goto 4, 3) := dqrs2 dqK_167 dqw_cX1_allowOnly_24 0 rfl rfl rfl rfl (by decide)
theorem dX1_allowOnly_27 : decode cX1_allowOnly 27 = .ok (.iconst 0, 1) := dqr0 dqK_3 dqw_cX1_allowOnly_24 3 rfl rfl
theorem dX1_allowOnly_28 : decode cX1_allowOnly 28 = .ok (.iastore, 1) := dqr0 dqK_79 dqw_cX1_allowOnly_24 4 rfl rfl
theorem dX1_allowOnly_29 : decode cX1_allowOnly 29 = .ok (.iinc 3 1, 3) := dqri dqK_132 dqw_cX1_allowOnly_24 5 rfl rfl rfl rfl (by decide)
theorem dX1_allowOnly_32 : decode cX1_allowOnly 32 = .ok (.goto (-30), 3) := dqrs2 dqK_167 dqw_cX1_allowOnly_24 8 rfl rfl rfl rfl (by decide)
theorem dX1_allowOnly_35 : decode cX1_allowOnly 35 = .ok (.return_, 1) := dqr0 dqK_177 dqw_cX1_allowOnly_24 11 rfl rfl
theorem dqw_cX1_ways_0 : dqLF cX1_ways 0 [42, 180, 0, 33, 27, 182, 0, 53, 61, 3, 62, 29, 42, 180, 0, 33, 180, 0, 59, 162, 0, 39, 28, 42] := by decide +kernel
theorem dX1_ways_0 : decode cX1_ways 0 = .ok (.aload_n 0, 1) := dqr0 dqK_42 dqw_cX1_ways_0 0 rfl rfl
theorem dX1_ways_1 : decode cX1_ways 1 = .ok (.getfield 33, 3) := dqr2 dqK_180 dqw_cX1_ways_0 1 rfl rfl rfl rfl rfl
theorem dX1_ways_4 : decode cX1_ways 4 = .ok (.iload_n 1, 1) := dqr0 dqK_27 dqw_cX1_ways_0 4 rfl rfl
theorem dX1_ways_5 : decode cX1_ways 5 = .ok (.invokevirtual 53, 3) := dqr2 dqK_182 dqw_cX1_ways_0 5 rfl rfl rfl rfl rfl
theorem dX1_ways_8 : decode cX1_ways 8 = .ok (.istore_n 2, 1) := dqr0 dqK_61 dqw_cX1_ways_0 8 rfl rfl
theorem dX1_ways_9 : decode cX1_ways 9 = .ok (.iconst 0, 1) := dqr0 dqK_3 dqw_cX1_ways_0 9 rfl rfl
theorem dX1_ways_10 : decode cX1_ways 10 = .ok (.istore_n 3, 1) := dqr0 dqK_62 dqw_cX1_ways_0 10 rfl rfl
theorem dX1_ways_11 : decode cX1_ways 11 = .ok (.iload_n 3, 1) := dqr0 dqK_29 dqw_cX1_ways_0 11 rfl rfl
theorem dX1_ways_12 : decode cX1_ways 12 = .ok (.aload_n 0, 1) := dqr0 dqK_42 dqw_cX1_ways_0 12 rfl rfl
theorem dX1_ways_13 : decode cX1_ways 13 = .ok (.getfield 33, 3) := dqr2 dqK_180 dqw_cX1_ways_0 13 rfl rfl rfl rfl rfl
theorem dX1_ways_16 : decode cX1_ways 16 = .ok (.getfield 59, 3) := dqr2 dqK_180 dqw_cX1_ways_0 16 rfl rfl rfl rfl rfl
theorem dX1_ways_19 : decode cX1_ways 19 = .ok (.if_icmp .ge 39, 3) := dqrs2 dqK_162 dqw_cX1_ways_0 19 rfl rfl rfl rfl (by decide)
theorem dX1_ways_22 : decode cX1_ways 22 = .ok (.iload_n 2, 1) := dqr0 dqK_28 dqw_cX1_ways_0 22 rfl rfl
theorem dX1_ways_23 : decode cX1_ways 23 = .ok (.aload_n 0, 1) := dqr0 dqK_42 dqw_cX1_ways_0 23 rfl rfl
theorem dqw_cX1_ways_24 : dqLF cX1_ways 24 [180, 0, 33, 180, 0, 62, 29, 46, 122, 4, 126, 4, 160, 0, 16, 42, 42, 180, 0, 33, 180, 0, 62, 29] := by decide +kernel
theorem dX1_ways_24 : decode cX1_ways 24 = .ok (.getfield 33, 3) := dqr2 dqK_180 dqw_cX1_ways_24 0 rfl rfl rfl rfl rfl
theorem dX1_ways_27 : decode cX1_ways 27 = .ok (.getfield 62, 3) := dqr2 dqK_180 dqw_cX1_ways_24 3 rfl rfl rfl rfl rfl
theorem dX1_ways_30 : decode cX1_ways 30 = .ok (.iload_n 3, 1) := dqr0 dqK_29 dqw_cX1_ways_24 6 rfl rfl
theorem dX1_ways_31 : decode cX1_ways 31 = .ok (.iaload, 1) := dqr0 dqK_46 dqw_cX1_ways_24 7 rfl rfl
theorem dX1_ways_32 : decode cX1_ways 32 = .ok (.ishr, 1) := dqr0 dqK_122 dqw_cX1_ways_24 8 rfl rfl
theorem dX1_ways_33 : decode cX1_ways 33 = .ok (.iconst 1, 1) := dqr0 dqK_4 dqw_cX1_ways_24 9 rfl rfl
theorem dX1_ways_34 : decode cX1_ways 34 = .ok (.iand, 1) := dqr0 dqK_126 dqw_cX1_ways_24 10 rfl rfl
theorem dX1_ways_35 : decode cX1_ways 35 = .ok (.iconst 1, 1) := dqr0 dqK_4 dqw_cX1_ways_24 11 rfl rfl
theorem dX1_ways_36 : decode cX1_ways 36 = .ok (.if_icmp .ne 16, 3) := dqrs2 dqK_160 dqw_cX1_ways_24 12 rfl rfl rfl rfl (by decide)
theorem dX1_ways_39 : decode cX1_ways 39 = .ok (.aload_n 0, 1) := dqr0 dqK_42 dqw_cX1_ways_24 15 rfl rfl
theorem dX1_ways_40 : decode cX1_ways 40 = .ok (.aload_n 0, 1) := dqr0 dqK_42 dqw_cX1_ways_24 16 rfl rfl
theorem dX1_ways_41 : decode cX1_ways 41 = .ok (.getfield 33, 3) := dqr2 dqK_180 dqw_cX1_ways_24 17 rfl rfl rfl rfl rfl
theorem dX1_ways_44 : decode cX1_ways 44 = .ok (.getfield 62, 3) := dqr2 dqK_180 dqw_cX1_ways_24 20 rfl rfl rfl rfl rfl
theorem dX1_ways_47 : decode cX1_ways 47 = .ok (.iload_n 3, 1) := dqr0 dqK_29 dqw_cX1_ways_24 23 rfl rfl
theorem dqw_cX1_ways_48 : dqLF cX1_ways 48 [46, 182, 0, 65, 132, 3, 1, 167, 255, 212, 42, 180, 0, 11, 42, 27, 3, 42, 180, 0, 22, 182, 0, 69] := by decide +kernel
theorem dX1_ways_48 : decode cX1_ways 48 = .ok (.iaload, 1) := dqr0 dqK_46 dqw_cX1_ways_48 0 rfl rfl
theorem dX1_ways_49 : decode cX1_ways 49 = .ok (.invokevirtual 65, 3) := dqr2 dqK_182 dqw_cX1_ways_48 1 rfl rfl rfl rfl rfl
theorem dX1_ways_52 : decode cX1_ways 52 = .ok (.iinc 3 1, 3) := dqri dqK_132 dqw_cX1_ways_48 4 rfl rfl rfl rfl (by decide)
theorem dX1_ways_55 : decode cX1_ways 55 = .ok (.goto (-44), 3) := dqrs2 dqK_167 dqw_cX1_ways_48 7 rfl rfl rfl rfl (by decide)
theorem dX1_ways_58 : decode cX1_ways 58 = .ok (.aload_n 0, 1) := dqr0 dqK_42 dqw_cX1_ways_48 10 rfl rfl
theorem dX1_ways_59 : decode cX1_ways 59 = .ok (.getfield 11, 3) := dqr2 dqK_180 dqw_cX1_ways_48 11 rfl rfl rfl rfl rfl
theorem dX1_ways_62 : decode cX1_ways 62 = .ok (.aload_n 0, 1) := dqr0 dqK_42 dqw_cX1_ways_48 14 rfl rfl
theorem dX1_ways_63 : decode cX1_ways 63 = .ok (.iload_n 1, 1) := dqr0 dqK_27 dqw_cX1_ways_48 15 rfl rfl
theorem dX1_ways_64 : decode cX1_ways 64 = .ok (.iconst 0, 1) := dqr0 dqK_3 dqw_cX1_ways_48 16 rfl rfl
theorem dX1_ways_65 : decode cX1_ways 65 = .ok (.aload_n 0, 1) := dqr0 dqK_42 dqw_cX1_ways_48 17 rfl rfl
theorem dX1_ways_66 : decode cX1_ways 66 = .ok (.getfield 22, 3) := dqr2 dqK_180 dqw_cX1_ways_48 18 rfl rfl rfl rfl rfl
theorem dX1_ways_69 : decode cX1_ways 69 = .ok (.invokevirtual 69, 3) := dqr2 dqK_182 dqw_cX1_ways_48 21 rfl rfl rfl rfl rfl
theorem dqw_cX1_ways_72 : dqLF cX1_ways 72 [46, 172] := by decide +kernel
theorem dX1_ways_72 : decode cX1_ways 72 = .ok (.iaload, 1) := dqr0 dqK_46 dqw_cX1_ways_72 0 rfl rfl
theorem dX1_ways_73 : decode cX1_ways 73 = .ok (.ireturn, 1) := dqr0 dqK_172 dqw_cX1_ways_72 1 rfl rfl
theorem dqw_cX1_onlyLine_0 : dqLF cX1_onlyLine 0 [2, 62, 3, 54, 4, 21, 4, 16, 8, 162, 0, 71, 42, 180, 0, 18, 42, 180, 0, 29, 180, 0, 37] := by decide +kernel
theorem dX1_onlyLine_0 : decode cX1_onlyLine 0 = .ok (.iconst (-1), 1) := dqr0 dqK_2 dqw_cX1_onlyLine_0 0 rfl rfl
theorem dX1_onlyLine_1 : decode cX1_onlyLine 1 = .ok (.istore_n 3, 1) := dqr0 dqK_62 dqw_cX1_onlyLine_0 1 rfl rfl
theorem dX1_onlyLine_2 : decode cX1_onlyLine 2 = .ok (.iconst 0, 1) := dqr0 dqK_3 dqw_cX1_onlyLine_0 2 rfl rfl
theorem dX1_onlyLine_3 : decode cX1_onlyLine 3 = .ok (.istore 4, 2) := dqr1 dqK_54 dqw_cX1_onlyLine_0 3 rfl rfl rfl
theorem dX1_onlyLine_5 : decode cX1_onlyLine 5 = .ok (.iload 4, 2) := dqr1 dqK_21 dqw_cX1_onlyLine_0 5 rfl rfl rfl
theorem dX1_onlyLine_7 : decode cX1_onlyLine 7 = .ok (.bipush 8, 2) := dqrs1 dqK_16 dqw_cX1_onlyLine_0 7 rfl rfl rfl (by decide)
theorem dX1_onlyLine_9 : decode cX1_onlyLine 9 = .ok (.if_icmp .ge 71, 3) := dqrs2 dqK_162 dqw_cX1_onlyLine_0 9 rfl rfl rfl rfl (by decide)
theorem dX1_onlyLine_12 : decode cX1_onlyLine 12 = .ok (.aload_n 0, 1) := dqr0 dqK_42 dqw_cX1_onlyLine_0 12 rfl rfl
theorem dX1_onlyLine_13 : decode cX1_onlyLine 13 = .ok (.getfield 18, 3) := dqr2 dqK_180 dqw_cX1_onlyLine_0 13 rfl rfl rfl rfl rfl
theorem dX1_onlyLine_16 : decode cX1_onlyLine 16 = .ok (.aload_n 0, 1) := dqr0 dqK_42 dqw_cX1_onlyLine_0 16 rfl rfl
theorem dX1_onlyLine_17 : decode cX1_onlyLine 17 = .ok (.getfield 29, 3) := dqr2 dqK_180 dqw_cX1_onlyLine_0 17 rfl rfl rfl rfl rfl
theorem dX1_onlyLine_20 : decode cX1_onlyLine 20 = .ok (.getfield 37, 3) := dqr2 dqK_180 dqw_cX1_onlyLine_0 20 rfl rfl rfl rfl rfl
theorem dqw_cX1_onlyLine_23 : dqLF cX1_onlyLine 23 [21, 4, 47, 127, 55, 5, 22, 5, 9, 148, 153, 0, 41, 42, 28, 21, 4, 182, 0, 73, 42, 27] := by decide +kernel
theorem dX1_onlyLine_23 : decode cX1_onlyLine 23 = .ok (.iload 4, 2) := dqr1 dqK_21 dqw_cX1_onlyLine_23 0 rfl rfl rfl
theorem dX1_onlyLine_25 : decode cX1_onlyLine 25 = .ok (.laload, 1) := dqr0 dqK_47 dqw_cX1_onlyLine_23 2 rfl rfl
theorem dX1_onlyLine_26 : decode cX1_onlyLine 26 = .ok (.land, 1) := dqr0 dqK_127 dqw_cX1_onlyLine_23 3 rfl rfl
theorem dX1_onlyLine_27 : decode cX1_onlyLine 27 = .ok (.lstore 5, 2) := dqr1 dqK_55 dqw_cX1_onlyLine_23 4 rfl rfl rfl
theorem dX1_onlyLine_29 : decode cX1_onlyLine 29 = .ok (.lload 5, 2) := dqr1 dqK_22 dqw_cX1_onlyLine_23 6 rfl rfl rfl
theorem dX1_onlyLine_31 : decode cX1_onlyLine 31 = .ok (.lconst 0, 1) := dqr0 dqK_9 dqw_cX1_onlyLine_23 8 rfl rfl
theorem dX1_onlyLine_32 : decode cX1_onlyLine 32 = .ok (.lcmp, 1) := dqr0 dqK_148 dqw_cX1_onlyLine_23 9 rfl rfl
theorem dX1_onlyLine_33 : decode cX1_onlyLine 33 = .ok (.ifCond .eq 41, 3) := dqrs2 dqK_153 dqw_cX1_onlyLine_23 10 rfl rfl rfl rfl (by decide)
theorem dX1_onlyLine_36 : decode cX1_onlyLine 36 = .ok (.aload_n 0, 1) := dqr0 dqK_42 dqw_cX1_onlyLine_23 13 rfl rfl
theorem dX1_onlyLine_37 : decode cX1_onlyLine 37 = .ok (.iload_n 2, 1) := dqr0 dqK_28 dqw_cX1_onlyLine_23 14 rfl rfl
theorem dX1_onlyLine_38 : decode cX1_onlyLine 38 = .ok (.iload 4, 2) := dqr1 dqK_21 dqw_cX1_onlyLine_23 15 rfl rfl rfl
theorem dX1_onlyLine_40 : decode cX1_onlyLine 40 = .ok (.invokevirtual 73, 3) := dqr2 dqK_182 dqw_cX1_onlyLine_23 17 rfl rfl rfl rfl rfl
theorem dX1_onlyLine_43 : decode cX1_onlyLine 43 = .ok (.aload_n 0, 1) := dqr0 dqK_42 dqw_cX1_onlyLine_23 20 rfl rfl
theorem dX1_onlyLine_44 : decode cX1_onlyLine 44 = .ok (.iload_n 1, 1) := dqr0 dqK_27 dqw_cX1_onlyLine_23 21 rfl rfl
theorem dqw_cX1_onlyLine_45 : dqLF cX1_onlyLine 45 [182, 0, 77, 158, 0, 26, 29, 2, 160, 0, 12, 22, 5, 184, 0, 43, 4, 164, 0, 5, 2, 172, 22, 5] := by decide +kernel
theorem dX1_onlyLine_45 : decode cX1_onlyLine 45 = .ok (.invokevirtual 77, 3) := dqr2 dqK_182 dqw_cX1_onlyLine_45 0 rfl rfl rfl rfl rfl
theorem dX1_onlyLine_48 : decode cX1_onlyLine 48 = .ok (.ifCond .le 26, 3) := dqrs2 dqK_158 dqw_cX1_onlyLine_45 3 rfl rfl rfl rfl (by decide)
theorem dX1_onlyLine_51 : decode cX1_onlyLine 51 = .ok (.iload_n 3, 1) := dqr0 dqK_29 dqw_cX1_onlyLine_45 6 rfl rfl
theorem dX1_onlyLine_52 : decode cX1_onlyLine 52 = .ok (.iconst (-1), 1) := dqr0 dqK_2 dqw_cX1_onlyLine_45 7 rfl rfl
theorem dX1_onlyLine_53 : decode cX1_onlyLine 53 = .ok (.if_icmp .ne 12, 3) := dqrs2 dqK_160 dqw_cX1_onlyLine_45 8 rfl rfl rfl rfl (by decide)
theorem dX1_onlyLine_56 : decode cX1_onlyLine 56 = .ok (.lload 5, 2) := dqr1 dqK_22 dqw_cX1_onlyLine_45 11 rfl rfl rfl
theorem dX1_onlyLine_58 : decode cX1_onlyLine 58 = .ok (.invokestatic 43, 3) := dqr2 dqK_184 dqw_cX1_onlyLine_45 13 rfl rfl rfl rfl rfl
theorem dX1_onlyLine_61 : decode cX1_onlyLine 61 = .ok (.iconst 1, 1) := dqr0 dqK_4 dqw_cX1_onlyLine_45 16 rfl rfl
theorem dX1_onlyLine_62 : decode cX1_onlyLine 62 = .ok (.if_icmp .le 5, 3) := dqrs2 dqK_164 dqw_cX1_onlyLine_45 17 rfl rfl rfl rfl (by decide)
theorem dX1_onlyLine_65 : decode cX1_onlyLine 65 = .ok (.iconst (-1), 1) := dqr0 dqK_2 dqw_cX1_onlyLine_45 20 rfl rfl
theorem dX1_onlyLine_66 : decode cX1_onlyLine 66 = .ok (.ireturn, 1) := dqr0 dqK_172 dqw_cX1_onlyLine_45 21 rfl rfl
theorem dX1_onlyLine_67 : decode cX1_onlyLine 67 = .ok (.lload 5, 2) := dqr1 dqK_22 dqw_cX1_onlyLine_45 22 rfl rfl rfl
theorem dqw_cX1_onlyLine_69 : dqLF cX1_onlyLine 69 [3, 184, 0, 80, 62, 132, 4, 1, 167, 255, 184, 29, 172] := by decide +kernel
theorem dX1_onlyLine_69 : decode cX1_onlyLine 69 = .ok (.iconst 0, 1) := dqr0 dqK_3 dqw_cX1_onlyLine_69 0 rfl rfl
theorem dX1_onlyLine_70 : decode cX1_onlyLine 70 = .ok (.invokestatic 80, 3) := dqr2 dqK_184 dqw_cX1_onlyLine_69 1 rfl rfl rfl rfl rfl
theorem dX1_onlyLine_73 : decode cX1_onlyLine 73 = .ok (.istore_n 3, 1) := dqr0 dqK_62 dqw_cX1_onlyLine_69 4 rfl rfl
theorem dX1_onlyLine_74 : decode cX1_onlyLine 74 = .ok (.iinc 4 1, 3) := dqri dqK_132 dqw_cX1_onlyLine_69 5 rfl rfl rfl rfl (by decide)
theorem dX1_onlyLine_77 : decode cX1_onlyLine 77 = .ok (.goto (-72), 3) := dqrs2 dqK_167 dqw_cX1_onlyLine_69 8 rfl rfl rfl rfl (by decide)
theorem dX1_onlyLine_80 : decode cX1_onlyLine 80 = .ok (.iload_n 3, 1) := dqr0 dqK_29 dqw_cX1_onlyLine_69 11 rfl rfl
theorem dX1_onlyLine_81 : decode cX1_onlyLine 81 = .ok (.ireturn, 1) := dqr0 dqK_172 dqw_cX1_onlyLine_69 12 rfl rfl
theorem dqw_cX1_fillTable_0 : dqLF cX1_fillTable 0 [42, 16, 8, 181, 0, 26, 42, 42, 180, 0, 26, 182, 0, 83, 42, 42, 180, 0, 26, 182, 0, 86, 5, 61] := by decide +kernel
theorem dX1_fillTable_0 : decode cX1_fillTable 0 = .ok (.aload_n 0, 1) := dqr0 dqK_42 dqw_cX1_fillTable_0 0 rfl rfl
theorem dX1_fillTable_1 : decode cX1_fillTable 1 = .ok (.bipush 8, 2) := dqrs1 dqK_16 dqw_cX1_fillTable_0 1 rfl rfl rfl (by decide)
theorem dX1_fillTable_3 : decode cX1_fillTable 3 = .ok (.putfield 26, 3) := dqr2 dqK_181 dqw_cX1_fillTable_0 3 rfl rfl rfl rfl rfl
theorem dX1_fillTable_6 : decode cX1_fillTable 6 = .ok (.aload_n 0, 1) := dqr0 dqK_42 dqw_cX1_fillTable_0 6 rfl rfl
theorem dX1_fillTable_7 : decode cX1_fillTable 7 = .ok (.aload_n 0, 1) := dqr0 dqK_42 dqw_cX1_fillTable_0 7 rfl rfl
theorem dX1_fillTable_8 : decode cX1_fillTable 8 = .ok (.getfield 26, 3) := dqr2 dqK_180 dqw_cX1_fillTable_0 8 rfl rfl rfl rfl rfl
theorem dX1_fillTable_11 : decode cX1_fillTable 11 = .ok (.invokevirtual 83, 3) := dqr2 dqK_182 dqw_cX1_fillTable_0 11 rfl rfl rfl rfl rfl
theorem dX1_fillTable_14 : decode cX1_fillTable 14 = .ok (.aload_n 0, 1) := dqr0 dqK_42 dqw_cX1_fillTable_0 14 rfl rfl
theorem dX1_fillTable_15 : decode cX1_fillTable 15 = .ok (.aload_n 0, 1) := dqr0 dqK_42 dqw_cX1_fillTable_0 15 rfl rfl
theorem dX1_fillTable_16 : decode cX1_fillTable 16 = .ok (.getfield 26, 3) := dqr2 dqK_180 dqw_cX1_fillTable_0 16 rfl rfl rfl rfl rfl
theorem dX1_fillTable_19 : decode cX1_fillTable 19 = .ok (.invokevirtual 86, 3) := dqr2 dqK_182 dqw_cX1_fillTable_0 19 rfl rfl rfl rfl rfl
theorem dX1_fillTable_22 : decode cX1_fillTable 22 = .ok (.iconst 2, 1) := dqr0 dqK_5 dqw_cX1_fillTable_0 22 rfl rfl
theorem dX1_fillTable_23 : decode cX1_fillTable 23 = .ok (.istore_n 2, 1) := dqr0 dqK_61 dqw_cX1_fillTable_0 23 rfl rfl
theorem dqw_cX1_fillTable_24 : dqLF cX1_fillTable 24 [28, 42, 180, 0, 33, 180, 0, 89, 27, 46, 162, 0, 22, 42, 42, 180, 0, 33, 27, 28, 182, 0, 92] := by decide +kernel
theorem dX1_fillTable_24 : decode cX1_fillTable 24 = .ok (.iload_n 2, 1) := dqr0 dqK_28 dqw_cX1_fillTable_24 0 rfl rfl
theorem dX1_fillTable_25 : decode cX1_fillTable 25 = .ok (.aload_n 0, 1) := dqr0 dqK_42 dqw_cX1_fillTable_24 1 rfl rfl
theorem dX1_fillTable_26 : decode cX1_fillTable 26 = .ok (.getfield 33, 3) := dqr2 dqK_180 dqw_cX1_fillTable_24 2 rfl rfl rfl rfl rfl
theorem dX1_fillTable_29 : decode cX1_fillTable 29 = .ok (.getfield 89, 3) := dqr2 dqK_180 dqw_cX1_fillTable_24 5 rfl rfl rfl rfl rfl
theorem dX1_fillTable_32 : decode cX1_fillTable 32 = .ok (.iload_n 1, 1) := dqr0 dqK_27 dqw_cX1_fillTable_24 8 rfl rfl
theorem dX1_fillTable_33 : decode cX1_fillTable 33 = .ok (.iaload, 1) := dqr0 dqK_46 dqw_cX1_fillTable_24 9 rfl rfl
theorem dX1_fillTable_34 : decode cX1_fillTable 34 = .ok (.if_icmp .ge 22, 3) := dqrs2 dqK_162 dqw_cX1_fillTable_24 10 rfl rfl rfl rfl (by decide)
theorem dX1_fillTable_37 : decode cX1_fillTable 37 = .ok (.aload_n 0, 1) := dqr0 dqK_42 dqw_cX1_fillTable_24 13 rfl rfl
theorem dX1_fillTable_38 : decode cX1_fillTable 38 = .ok (.aload_n 0, 1) := dqr0 dqK_42 dqw_cX1_fillTable_24 14 rfl rfl
theorem dX1_fillTable_39 : decode cX1_fillTable 39 = .ok (.getfield 33, 3) := dqr2 dqK_180 dqw_cX1_fillTable_24 15 rfl rfl rfl rfl rfl
theorem dX1_fillTable_42 : decode cX1_fillTable 42 = .ok (.iload_n 1, 1) := dqr0 dqK_27 dqw_cX1_fillTable_24 18 rfl rfl
theorem dX1_fillTable_43 : decode cX1_fillTable 43 = .ok (.iload_n 2, 1) := dqr0 dqK_28 dqw_cX1_fillTable_24 19 rfl rfl
theorem dX1_fillTable_44 : decode cX1_fillTable 44 = .ok (.invokevirtual 92, 3) := dqr2 dqK_182 dqw_cX1_fillTable_24 20 rfl rfl rfl rfl rfl
theorem dqw_cX1_fillTable_47 : dqLF cX1_fillTable 47 [182, 0, 96, 132, 2, 1, 167, 255, 227, 42, 27, 182, 0, 83, 42, 27, 16, 8, 182, 0, 99, 177] := by decide +kernel
theorem dX1_fillTable_47 : decode cX1_fillTable 47 = .ok (.invokevirtual 96, 3) := dqr2 dqK_182 dqw_cX1_fillTable_47 0 rfl rfl rfl rfl rfl
theorem dX1_fillTable_50 : decode cX1_fillTable 50 = .ok (.iinc 2 1, 3) := dqri dqK_132 dqw_cX1_fillTable_47 3 rfl rfl rfl rfl (by decide)
theorem dX1_fillTable_53 : decode cX1_fillTable 53 = .ok (.goto (-29), 3) := dqrs2 dqK_167 dqw_cX1_fillTable_47 6 rfl rfl rfl rfl (by decide)
theorem dX1_fillTable_56 : decode cX1_fillTable 56 = .ok (.aload_n 0, 1) := dqr0 dqK_42 dqw_cX1_fillTable_47 9 rfl rfl
theorem dX1_fillTable_57 : decode cX1_fillTable 57 = .ok (.iload_n 1, 1) := dqr0 dqK_27 dqw_cX1_fillTable_47 10 rfl rfl
theorem dX1_fillTable_58 : decode cX1_fillTable 58 = .ok (.invokevirtual 83, 3) := dqr2 dqK_182 dqw_cX1_fillTable_47 11 rfl rfl rfl rfl rfl
theorem dX1_fillTable_61 : decode cX1_fillTable 61 = .ok (.aload_n 0, 1) := dqr0 dqK_42 dqw_cX1_fillTable_47 14 rfl rfl
theorem dX1_fillTable_62 : decode cX1_fillTable 62 = .ok (.iload_n 1, 1) := dqr0 dqK_27 dqw_cX1_fillTable_47 15 rfl rfl
theorem dX1_fillTable_63 : decode cX1_fillTable 63 = .ok (.bipush 8, 2) := dqrs1 dqK_16 dqw_cX1_fillTable_47 16 rfl rfl rfl (by decide)
theorem dX1_fillTable_65 : decode cX1_fillTable 65 = .ok (.invokevirtual 99, 3) := dqr2 dqK_182 dqw_cX1_fillTable_47 18 rfl rfl rfl rfl rfl
theorem dX1_fillTable_68 : decode cX1_fillTable 68 = .ok (.return_, 1) := dqr0 dqK_177 dqw_cX1_fillTable_47 21 rfl rfl
theorem dqw_cX1_readSign_0 : dqLF cX1_readSign 0 [27, 184, 0, 102, 153, 0, 14, 42, 27, 16, 97, 100, 182, 0, 106, 167, 0, 98, 27, 184, 0, 109] := by decide +kernel
theorem dX1_readSign_0 : decode cX1_readSign 0 = .ok (.iload_n 1, 1) := dqr0 dqK_27 dqw_cX1_readSign_0 0 rfl rfl
theorem dX1_readSign_1 : decode cX1_readSign 1 = .ok (.invokestatic 102, 3) := dqr2 dqK_184 dqw_cX1_readSign_0 1 rfl rfl rfl rfl rfl
theorem dX1_readSign_4 : decode cX1_readSign 4 = .ok (.ifCond .eq 14, 3) := dqrs2 dqK_153 dqw_cX1_readSign_0 4 rfl rfl rfl rfl (by decide)
theorem dX1_readSign_7 : decode cX1_readSign 7 = .ok (.aload_n 0, 1) := dqr0 dqK_42 dqw_cX1_readSign_0 7 rfl rfl
theorem dX1_readSign_8 : decode cX1_readSign 8 = .ok (.iload_n 1, 1) := dqr0 dqK_27 dqw_cX1_readSign_0 8 rfl rfl
theorem dX1_readSign_9 : decode cX1_readSign 9 = .ok (.bipush 97, 2) := dqrs1 dqK_16 dqw_cX1_readSign_0 9 rfl rfl rfl (by decide)
theorem dX1_readSign_11 : decode cX1_readSign 11 = .ok (.isub, 1) := dqr0 dqK_100 dqw_cX1_readSign_0 11 rfl rfl
theorem dX1_readSign_12 : decode cX1_readSign 12 = .ok (.invokevirtual 106, 3) := dqr2 dqK_182 dqw_cX1_readSign_0 12 rfl rfl rfl rfl rfl
theorem dX1_readSign_15 : decode cX1_readSign 15 = .ok (.goto 98, 3) := dqrs2 dqK_167 dqw_cX1_readSign_0 15 rfl rfl rfl rfl (by decide)
theorem dX1_readSign_18 : decode cX1_readSign 18 = .ok (.iload_n 1, 1) := dqr0 dqK_27 dqw_cX1_readSign_0 18 rfl rfl
theorem dX1_readSign_19 : decode cX1_readSign 19 = .ok (.invokestatic 109, 3) := dqr2 dqK_184 dqw_cX1_readSign_0 19 rfl rfl rfl rfl rfl
theorem dqw_cX1_readSign_22 : dqLF cX1_readSign 22 [153, 0, 18, 42, 42, 180, 0, 26, 27, 16, 65, 100, 182, 0, 112, 167, 0, 76, 27, 16, 93, 160, 0, 18] := by decide +kernel
theorem dX1_readSign_22 : decode cX1_readSign 22 = .ok (.ifCond .eq 18, 3) := dqrs2 dqK_153 dqw_cX1_readSign_22 0 rfl rfl rfl rfl (by decide)
theorem dX1_readSign_25 : decode cX1_readSign 25 = .ok (.aload_n 0, 1) := dqr0 dqK_42 dqw_cX1_readSign_22 3 rfl rfl
theorem dX1_readSign_26 : decode cX1_readSign 26 = .ok (.aload_n 0, 1) := dqr0 dqK_42 dqw_cX1_readSign_22 4 rfl rfl
theorem dX1_readSign_27 : decode cX1_readSign 27 = .ok (.getfield 26, 3) := dqr2 dqK_180 dqw_cX1_readSign_22 5 rfl rfl rfl rfl rfl
theorem dX1_readSign_30 : decode cX1_readSign 30 = .ok (.iload_n 1, 1) := dqr0 dqK_27 dqw_cX1_readSign_22 8 rfl rfl
theorem dX1_readSign_31 : decode cX1_readSign 31 = .ok (.bipush 65, 2) := dqrs1 dqK_16 dqw_cX1_readSign_22 9 rfl rfl rfl (by decide)
theorem dX1_readSign_33 : decode cX1_readSign 33 = .ok (.isub, 1) := dqr0 dqK_100 dqw_cX1_readSign_22 11 rfl rfl
theorem dX1_readSign_34 : decode cX1_readSign 34 = .ok (.invokevirtual 112, 3) := dqr2 dqK_182 dqw_cX1_readSign_22 12 rfl rfl rfl rfl rfl
theorem dX1_readSign_37 : decode cX1_readSign 37 = .ok (.goto 76, 3) := dqrs2 dqK_167 dqw_cX1_readSign_22 15 rfl rfl rfl rfl (by decide)
theorem dX1_readSign_40 : decode cX1_readSign 40 = .ok (.iload_n 1, 1) := dqr0 dqK_27 dqw_cX1_readSign_22 18 rfl rfl
theorem dX1_readSign_41 : decode cX1_readSign 41 = .ok (.bipush 93, 2) := dqrs1 dqK_16 dqw_cX1_readSign_22 19 rfl rfl rfl (by decide)
theorem dX1_readSign_43 : decode cX1_readSign 43 = .ok (.if_icmp .ne 18, 3) := dqrs2 dqK_160 dqw_cX1_readSign_22 21 rfl rfl rfl rfl (by decide)
theorem dqw_cX1_readSign_46 : dqLF cX1_readSign 46 [42, 42, 180, 0, 26, 182, 0, 86, 42, 182, 0, 115, 167, 0, 55, 27, 16, 125, 160, 0, 14, 42] := by decide +kernel
theorem dX1_readSign_46 : decode cX1_readSign 46 = .ok (.aload_n 0, 1) := dqr0 dqK_42 dqw_cX1_readSign_46 0 rfl rfl
theorem dX1_readSign_47 : decode cX1_readSign 47 = .ok (.aload_n 0, 1) := dqr0 dqK_42 dqw_cX1_readSign_46 1 rfl rfl
theorem dX1_readSign_48 : decode cX1_readSign 48 = .ok (.getfield 26, 3) := dqr2 dqK_180 dqw_cX1_readSign_46 2 rfl rfl rfl rfl rfl
theorem dX1_readSign_51 : decode cX1_readSign 51 = .ok (.invokevirtual 86, 3) := dqr2 dqK_182 dqw_cX1_readSign_46 5 rfl rfl rfl rfl rfl
theorem dX1_readSign_54 : decode cX1_readSign 54 = .ok (.aload_n 0, 1) := dqr0 dqK_42 dqw_cX1_readSign_46 8 rfl rfl
theorem dX1_readSign_55 : decode cX1_readSign 55 = .ok (.invokevirtual 115, 3) := dqr2 dqK_182 dqw_cX1_readSign_46 9 rfl rfl rfl rfl rfl
theorem dX1_readSign_58 : decode cX1_readSign 58 = .ok (.goto 55, 3) := dqrs2 dqK_167 dqw_cX1_readSign_46 12 rfl rfl rfl rfl (by decide)
theorem dX1_readSign_61 : decode cX1_readSign 61 = .ok (.iload_n 1, 1) := dqr0 dqK_27 dqw_cX1_readSign_46 15 rfl rfl
theorem dX1_readSign_62 : decode cX1_readSign 62 = .ok (.bipush 125, 2) := dqrs1 dqK_16 dqw_cX1_readSign_46 16 rfl rfl rfl (by decide)
theorem dX1_readSign_64 : decode cX1_readSign 64 = .ok (.if_icmp .ne 14, 3) := dqrs2 dqK_160 dqw_cX1_readSign_46 18 rfl rfl rfl rfl (by decide)
theorem dX1_readSign_67 : decode cX1_readSign 67 = .ok (.aload_n 0, 1) := dqr0 dqK_42 dqw_cX1_readSign_46 21 rfl rfl
theorem dqw_cX1_readSign_68 : dqLF cX1_readSign 68 [182, 0, 118, 42, 182, 0, 115, 167, 0, 38, 27, 16, 41, 160, 0, 28, 42, 42, 180, 0, 26, 4, 100, 42] := by decide +kernel
theorem dX1_readSign_68 : decode cX1_readSign 68 = .ok (.invokevirtual 118, 3) := dqr2 dqK_182 dqw_cX1_readSign_68 0 rfl rfl rfl rfl rfl
theorem dX1_readSign_71 : decode cX1_readSign 71 = .ok (.aload_n 0, 1) := dqr0 dqK_42 dqw_cX1_readSign_68 3 rfl rfl
theorem dX1_readSign_72 : decode cX1_readSign 72 = .ok (.invokevirtual 115, 3) := dqr2 dqK_182 dqw_cX1_readSign_68 4 rfl rfl rfl rfl rfl
theorem dX1_readSign_75 : decode cX1_readSign 75 = .ok (.goto 38, 3) := dqrs2 dqK_167 dqw_cX1_readSign_68 7 rfl rfl rfl rfl (by decide)
theorem dX1_readSign_78 : decode cX1_readSign 78 = .ok (.iload_n 1, 1) := dqr0 dqK_27 dqw_cX1_readSign_68 10 rfl rfl
theorem dX1_readSign_79 : decode cX1_readSign 79 = .ok (.bipush 41, 2) := dqrs1 dqK_16 dqw_cX1_readSign_68 11 rfl rfl rfl (by decide)
theorem dX1_readSign_81 : decode cX1_readSign 81 = .ok (.if_icmp .ne 28, 3) := dqrs2 dqK_160 dqw_cX1_readSign_68 13 rfl rfl rfl rfl (by decide)
theorem dX1_readSign_84 : decode cX1_readSign 84 = .ok (.aload_n 0, 1) := dqr0 dqK_42 dqw_cX1_readSign_68 16 rfl rfl
theorem dX1_readSign_85 : decode cX1_readSign 85 = .ok (.aload_n 0, 1) := dqr0 dqK_42 dqw_cX1_readSign_68 17 rfl rfl
theorem dX1_readSign_86 : decode cX1_readSign 86 = .ok (.getfield 26, 3) := dqr2 dqK_180 dqw_cX1_readSign_68 18 rfl rfl rfl rfl rfl
theorem dX1_readSign_89 : decode cX1_readSign 89 = .ok (.iconst 1, 1) := dqr0 dqK_4 dqw_cX1_readSign_68 21 rfl rfl
theorem dX1_readSign_90 : decode cX1_readSign 90 = .ok (.isub, 1) := dqr0 dqK_100 dqw_cX1_readSign_68 22 rfl rfl
theorem dX1_readSign_91 : decode cX1_readSign 91 = .ok (.aload_n 0, 1) := dqr0 dqK_42 dqw_cX1_readSign_68 23 rfl rfl
theorem dqw_cX1_readSign_92 : dqLF cX1_readSign 92 [180, 0, 26, 182, 0, 99, 42, 182, 0, 121, 42, 182, 0, 115, 167, 0, 7, 42, 182, 0, 124, 177] := by decide +kernel
theorem dX1_readSign_92 : decode cX1_readSign 92 = .ok (.getfield 26, 3) := dqr2 dqK_180 dqw_cX1_readSign_92 0 rfl rfl rfl rfl rfl
theorem dX1_readSign_95 : decode cX1_readSign 95 = .ok (.invokevirtual 99, 3) := dqr2 dqK_182 dqw_cX1_readSign_92 3 rfl rfl rfl rfl rfl
theorem dX1_readSign_98 : decode cX1_readSign 98 = .ok (.aload_n 0, 1) := dqr0 dqK_42 dqw_cX1_readSign_92 6 rfl rfl
theorem dX1_readSign_99 : decode cX1_readSign 99 = .ok (.invokevirtual 121, 3) := dqr2 dqK_182 dqw_cX1_readSign_92 7 rfl rfl rfl rfl rfl
theorem dX1_readSign_102 : decode cX1_readSign 102 = .ok (.aload_n 0, 1) := dqr0 dqK_42 dqw_cX1_readSign_92 10 rfl rfl
theorem dX1_readSign_103 : decode cX1_readSign 103 = .ok (.invokevirtual 115, 3) := dqr2 dqK_182 dqw_cX1_readSign_92 11 rfl rfl rfl rfl rfl
theorem dX1_readSign_106 : decode cX1_readSign 106 = .ok (.goto 7, 3) := dqrs2 dqK_167 dqw_cX1_readSign_92 14 rfl rfl rfl rfl (by decide)
theorem dX1_readSign_109 : decode cX1_readSign 109 = .ok (.aload_n 0, 1) := dqr0 dqK_42 dqw_cX1_readSign_92 17 rfl rfl
theorem dX1_readSign_110 : decode cX1_readSign 110 = .ok (.invokevirtual 124, 3) := dqr2 dqK_182 dqw_cX1_readSign_92 18 rfl rfl rfl rfl rfl
theorem dX1_readSign_113 : decode cX1_readSign 113 = .ok (.return_, 1) := dqr0 dqK_177 dqw_cX1_readSign_92 21 rfl rfl
theorem dqw_cX1_raise_0 : dqLF cX1_raise 0 [42, 180, 0, 26, 16, 36, 162, 0, 13, 42, 89, 180, 0, 26, 4, 96, 181, 0, 26, 42, 42, 180, 0, 26] := by decide +kernel
theorem dX1_raise_0 : decode cX1_raise 0 = .ok (.aload_n 0, 1) := dqr0 dqK_42 dqw_cX1_raise_0 0 rfl rfl
theorem dX1_raise_1 : decode cX1_raise 1 = .ok (.getfield 26, 3) := dqr2 dqK_180 dqw_cX1_raise_0 1 rfl rfl rfl rfl rfl
theorem dX1_raise_4 : decode cX1_raise 4 = .ok (.bipush 36, 2) := dqrs1 dqK_16 dqw_cX1_raise_0 4 rfl rfl rfl (by decide)
theorem dX1_raise_6 : decode cX1_raise 6 = .ok (.if_icmp .ge 13, 3) := dqrs2 dqK_162 dqw_cX1_raise_0 6 rfl rfl rfl rfl (by decide)
theorem dX1_raise_9 : decode cX1_raise 9 = .ok (.aload_n 0, 1) := dqr0 dqK_42 dqw_cX1_raise_0 9 rfl rfl
theorem dX1_raise_10 : decode cX1_raise 10 = .ok (.dup, 1) := dqr0 dqK_89 dqw_cX1_raise_0 10 rfl rfl
theorem dX1_raise_11 : decode cX1_raise 11 = .ok (.getfield 26, 3) := dqr2 dqK_180 dqw_cX1_raise_0 11 rfl rfl rfl rfl rfl
theorem dX1_raise_14 : decode cX1_raise 14 = .ok (.iconst 1, 1) := dqr0 dqK_4 dqw_cX1_raise_0 14 rfl rfl
theorem dX1_raise_15 : decode cX1_raise 15 = .ok (.iadd, 1) := dqr0 dqK_96 dqw_cX1_raise_0 15 rfl rfl
theorem dX1_raise_16 : decode cX1_raise 16 = .ok (.putfield 26, 3) := dqr2 dqK_181 dqw_cX1_raise_0 16 rfl rfl rfl rfl rfl
theorem dX1_raise_19 : decode cX1_raise 19 = .ok (.aload_n 0, 1) := dqr0 dqK_42 dqw_cX1_raise_0 19 rfl rfl
theorem dX1_raise_20 : decode cX1_raise 20 = .ok (.aload_n 0, 1) := dqr0 dqK_42 dqw_cX1_raise_0 20 rfl rfl
theorem dX1_raise_21 : decode cX1_raise 21 = .ok (.getfield 26, 3) := dqr2 dqK_180 dqw_cX1_raise_0 21 rfl rfl rfl rfl rfl
theorem dqw_cX1_raise_24 : dqLF cX1_raise 24 [182, 0, 83, 42, 42, 180, 0, 26, 182, 0, 86, 177] := by decide +kernel
theorem dX1_raise_24 : decode cX1_raise 24 = .ok (.invokevirtual 83, 3) := dqr2 dqK_182 dqw_cX1_raise_24 0 rfl rfl rfl rfl rfl
theorem dX1_raise_27 : decode cX1_raise 27 = .ok (.aload_n 0, 1) := dqr0 dqK_42 dqw_cX1_raise_24 3 rfl rfl
theorem dX1_raise_28 : decode cX1_raise 28 = .ok (.aload_n 0, 1) := dqr0 dqK_42 dqw_cX1_raise_24 4 rfl rfl
theorem dX1_raise_29 : decode cX1_raise 29 = .ok (.getfield 26, 3) := dqr2 dqK_180 dqw_cX1_raise_24 5 rfl rfl rfl rfl rfl
theorem dX1_raise_32 : decode cX1_raise 32 = .ok (.invokevirtual 86, 3) := dqr2 dqK_182 dqw_cX1_raise_24 8 rfl rfl rfl rfl rfl
theorem dX1_raise_35 : decode cX1_raise 35 = .ok (.return_, 1) := dqr0 dqK_177 dqw_cX1_raise_24 11 rfl rfl
theorem dqw_cX1_lower_0 : dqLF cX1_lower 0 [42, 180, 0, 26, 16, 8, 164, 0, 13, 42, 89, 180, 0, 26, 4, 100, 181, 0, 26, 177] := by decide +kernel
theorem dX1_lower_0 : decode cX1_lower 0 = .ok (.aload_n 0, 1) := dqr0 dqK_42 dqw_cX1_lower_0 0 rfl rfl
theorem dX1_lower_1 : decode cX1_lower 1 = .ok (.getfield 26, 3) := dqr2 dqK_180 dqw_cX1_lower_0 1 rfl rfl rfl rfl rfl
theorem dX1_lower_4 : decode cX1_lower 4 = .ok (.bipush 8, 2) := dqrs1 dqK_16 dqw_cX1_lower_0 4 rfl rfl rfl (by decide)
theorem dX1_lower_6 : decode cX1_lower 6 = .ok (.if_icmp .le 13, 3) := dqrs2 dqK_164 dqw_cX1_lower_0 6 rfl rfl rfl rfl (by decide)
theorem dX1_lower_9 : decode cX1_lower 9 = .ok (.aload_n 0, 1) := dqr0 dqK_42 dqw_cX1_lower_0 9 rfl rfl
theorem dX1_lower_10 : decode cX1_lower 10 = .ok (.dup, 1) := dqr0 dqK_89 dqw_cX1_lower_0 10 rfl rfl
theorem dX1_lower_11 : decode cX1_lower 11 = .ok (.getfield 26, 3) := dqr2 dqK_180 dqw_cX1_lower_0 11 rfl rfl rfl rfl rfl
theorem dX1_lower_14 : decode cX1_lower 14 = .ok (.iconst 1, 1) := dqr0 dqK_4 dqw_cX1_lower_0 14 rfl rfl
theorem dX1_lower_15 : decode cX1_lower 15 = .ok (.isub, 1) := dqr0 dqK_100 dqw_cX1_lower_0 15 rfl rfl
theorem dX1_lower_16 : decode cX1_lower 16 = .ok (.putfield 26, 3) := dqr2 dqK_181 dqw_cX1_lower_0 16 rfl rfl rfl rfl rfl
theorem dX1_lower_19 : decode cX1_lower 19 = .ok (.return_, 1) := dqr0 dqK_177 dqw_cX1_lower_0 19 rfl rfl
theorem dqw_cX1_close_0 : dqLF cX1_close 0 [42, 180, 0, 26, 60, 42, 182, 0, 121, 42, 42, 180, 0, 26, 27, 182, 0, 112, 177] := by decide +kernel
theorem dX1_close_0 : decode cX1_close 0 = .ok (.aload_n 0, 1) := dqr0 dqK_42 dqw_cX1_close_0 0 rfl rfl
theorem dX1_close_1 : decode cX1_close 1 = .ok (.getfield 26, 3) := dqr2 dqK_180 dqw_cX1_close_0 1 rfl rfl rfl rfl rfl
theorem dX1_close_4 : decode cX1_close 4 = .ok (.istore_n 1, 1) := dqr0 dqK_60 dqw_cX1_close_0 4 rfl rfl
theorem dX1_close_5 : decode cX1_close 5 = .ok (.aload_n 0, 1) := dqr0 dqK_42 dqw_cX1_close_0 5 rfl rfl
theorem dX1_close_6 : decode cX1_close 6 = .ok (.invokevirtual 121, 3) := dqr2 dqK_182 dqw_cX1_close_0 6 rfl rfl rfl rfl rfl
theorem dX1_close_9 : decode cX1_close 9 = .ok (.aload_n 0, 1) := dqr0 dqK_42 dqw_cX1_close_0 9 rfl rfl
theorem dX1_close_10 : decode cX1_close 10 = .ok (.aload_n 0, 1) := dqr0 dqK_42 dqw_cX1_close_0 10 rfl rfl
theorem dX1_close_11 : decode cX1_close 11 = .ok (.getfield 26, 3) := dqr2 dqK_180 dqw_cX1_close_0 11 rfl rfl rfl rfl rfl
theorem dX1_close_14 : decode cX1_close 14 = .ok (.iload_n 1, 1) := dqr0 dqK_27 dqw_cX1_close_0 14 rfl rfl
theorem dX1_close_15 : decode cX1_close 15 = .ok (.invokevirtual 112, 3) := dqr2 dqK_182 dqw_cX1_close_0 15 rfl rfl rfl rfl rfl
theorem dX1_close_18 : decode cX1_close 18 = .ok (.return_, 1) := dqr0 dqK_177 dqw_cX1_close_0 18 rfl rfl
theorem dqw_cX1_repeat_0 : dqLF cX1_repeat 0 [42, 180, 0, 26, 4, 96, 60, 42, 27, 182, 0, 83, 42, 27, 182, 0, 86, 3, 61, 28, 42, 180, 0, 33] := by decide +kernel
theorem dX1_repeat_0 : decode cX1_repeat 0 = .ok (.aload_n 0, 1) := dqr0 dqK_42 dqw_cX1_repeat_0 0 rfl rfl
theorem dX1_repeat_1 : decode cX1_repeat 1 = .ok (.getfield 26, 3) := dqr2 dqK_180 dqw_cX1_repeat_0 1 rfl rfl rfl rfl rfl
theorem dX1_repeat_4 : decode cX1_repeat 4 = .ok (.iconst 1, 1) := dqr0 dqK_4 dqw_cX1_repeat_0 4 rfl rfl
theorem dX1_repeat_5 : decode cX1_repeat 5 = .ok (.iadd, 1) := dqr0 dqK_96 dqw_cX1_repeat_0 5 rfl rfl
theorem dX1_repeat_6 : decode cX1_repeat 6 = .ok (.istore_n 1, 1) := dqr0 dqK_60 dqw_cX1_repeat_0 6 rfl rfl
theorem dX1_repeat_7 : decode cX1_repeat 7 = .ok (.aload_n 0, 1) := dqr0 dqK_42 dqw_cX1_repeat_0 7 rfl rfl
theorem dX1_repeat_8 : decode cX1_repeat 8 = .ok (.iload_n 1, 1) := dqr0 dqK_27 dqw_cX1_repeat_0 8 rfl rfl
theorem dX1_repeat_9 : decode cX1_repeat 9 = .ok (.invokevirtual 83, 3) := dqr2 dqK_182 dqw_cX1_repeat_0 9 rfl rfl rfl rfl rfl
theorem dX1_repeat_12 : decode cX1_repeat 12 = .ok (.aload_n 0, 1) := dqr0 dqK_42 dqw_cX1_repeat_0 12 rfl rfl
theorem dX1_repeat_13 : decode cX1_repeat 13 = .ok (.iload_n 1, 1) := dqr0 dqK_27 dqw_cX1_repeat_0 13 rfl rfl
theorem dX1_repeat_14 : decode cX1_repeat 14 = .ok (.invokevirtual 86, 3) := dqr2 dqK_182 dqw_cX1_repeat_0 14 rfl rfl rfl rfl rfl
theorem dX1_repeat_17 : decode cX1_repeat 17 = .ok (.iconst 0, 1) := dqr0 dqK_3 dqw_cX1_repeat_0 17 rfl rfl
theorem dX1_repeat_18 : decode cX1_repeat 18 = .ok (.istore_n 2, 1) := dqr0 dqK_61 dqw_cX1_repeat_0 18 rfl rfl
theorem dX1_repeat_19 : decode cX1_repeat 19 = .ok (.iload_n 2, 1) := dqr0 dqK_28 dqw_cX1_repeat_0 19 rfl rfl
theorem dX1_repeat_20 : decode cX1_repeat 20 = .ok (.aload_n 0, 1) := dqr0 dqK_42 dqw_cX1_repeat_0 20 rfl rfl
theorem dX1_repeat_21 : decode cX1_repeat 21 = .ok (.getfield 33, 3) := dqr2 dqK_180 dqw_cX1_repeat_0 21 rfl rfl rfl rfl rfl
theorem dqw_cX1_repeat_24 : dqLF cX1_repeat 24 [180, 0, 127, 162, 0, 23, 42, 27, 42, 180, 0, 26, 182, 0, 112, 42, 27, 182, 0, 86, 132, 2, 1] := by decide +kernel
theorem dX1_repeat_24 : decode cX1_repeat 24 = .ok (.getfield 127, 3) := dqr2 dqK_180 dqw_cX1_repeat_24 0 rfl rfl rfl rfl rfl
theorem dX1_repeat_27 : decode cX1_repeat 27 = .ok (.if_icmp .ge 23, 3) := dqrs2 dqK_162 dqw_cX1_repeat_24 3 rfl rfl rfl rfl (by decide)
theorem dX1_repeat_30 : decode cX1_repeat 30 = .ok (.aload_n 0, 1) := dqr0 dqK_42 dqw_cX1_repeat_24 6 rfl rfl
theorem dX1_repeat_31 : decode cX1_repeat 31 = .ok (.iload_n 1, 1) := dqr0 dqK_27 dqw_cX1_repeat_24 7 rfl rfl
theorem dX1_repeat_32 : decode cX1_repeat 32 = .ok (.aload_n 0, 1) := dqr0 dqK_42 dqw_cX1_repeat_24 8 rfl rfl
theorem dX1_repeat_33 : decode cX1_repeat 33 = .ok (.getfield 26, 3) := dqr2 dqK_180 dqw_cX1_repeat_24 9 rfl rfl rfl rfl rfl
theorem dX1_repeat_36 : decode cX1_repeat 36 = .ok (.invokevirtual 112, 3) := dqr2 dqK_182 dqw_cX1_repeat_24 12 rfl rfl rfl rfl rfl
theorem dX1_repeat_39 : decode cX1_repeat 39 = .ok (.aload_n 0, 1) := dqr0 dqK_42 dqw_cX1_repeat_24 15 rfl rfl
theorem dX1_repeat_40 : decode cX1_repeat 40 = .ok (.iload_n 1, 1) := dqr0 dqK_27 dqw_cX1_repeat_24 16 rfl rfl
theorem dX1_repeat_41 : decode cX1_repeat 41 = .ok (.invokevirtual 86, 3) := dqr2 dqK_182 dqw_cX1_repeat_24 17 rfl rfl rfl rfl rfl
theorem dX1_repeat_44 : decode cX1_repeat 44 = .ok (.iinc 2 1, 3) := dqri dqK_132 dqw_cX1_repeat_24 20 rfl rfl rfl rfl (by decide)
theorem dqw_cX1_repeat_47 : dqLF cX1_repeat 47 [167, 255, 228, 42, 42, 180, 0, 26, 182, 0, 83, 42, 42, 180, 0, 26, 27, 182, 0, 99, 177] := by decide +kernel
theorem dX1_repeat_47 : decode cX1_repeat 47 = .ok (.goto (-28), 3) := dqrs2 dqK_167 dqw_cX1_repeat_47 0 rfl rfl rfl rfl (by decide)
theorem dX1_repeat_50 : decode cX1_repeat 50 = .ok (.aload_n 0, 1) := dqr0 dqK_42 dqw_cX1_repeat_47 3 rfl rfl
theorem dX1_repeat_51 : decode cX1_repeat 51 = .ok (.aload_n 0, 1) := dqr0 dqK_42 dqw_cX1_repeat_47 4 rfl rfl
theorem dX1_repeat_52 : decode cX1_repeat 52 = .ok (.getfield 26, 3) := dqr2 dqK_180 dqw_cX1_repeat_47 5 rfl rfl rfl rfl rfl
theorem dX1_repeat_55 : decode cX1_repeat 55 = .ok (.invokevirtual 83, 3) := dqr2 dqK_182 dqw_cX1_repeat_47 8 rfl rfl rfl rfl rfl
theorem dX1_repeat_58 : decode cX1_repeat 58 = .ok (.aload_n 0, 1) := dqr0 dqK_42 dqw_cX1_repeat_47 11 rfl rfl
theorem dX1_repeat_59 : decode cX1_repeat 59 = .ok (.aload_n 0, 1) := dqr0 dqK_42 dqw_cX1_repeat_47 12 rfl rfl
theorem dX1_repeat_60 : decode cX1_repeat 60 = .ok (.getfield 26, 3) := dqr2 dqK_180 dqw_cX1_repeat_47 13 rfl rfl rfl rfl rfl
theorem dX1_repeat_63 : decode cX1_repeat 63 = .ok (.iload_n 1, 1) := dqr0 dqK_27 dqw_cX1_repeat_47 16 rfl rfl
theorem dX1_repeat_64 : decode cX1_repeat 64 = .ok (.invokevirtual 99, 3) := dqr2 dqK_182 dqw_cX1_repeat_47 17 rfl rfl rfl rfl rfl
theorem dX1_repeat_67 : decode cX1_repeat 67 = .ok (.return_, 1) := dqr0 dqK_177 dqw_cX1_repeat_47 20 rfl rfl
theorem dqw_cX1_cell_0 : dqLF cX1_cell 0 [27, 17, 1, 69, 104, 28, 5, 42, 180, 0, 22, 104, 6, 96, 28, 100, 104, 5, 108, 96, 29, 96, 28, 100] := by decide +kernel
theorem dX1_cell_0 : decode cX1_cell 0 = .ok (.iload_n 1, 1) := dqr0 dqK_27 dqw_cX1_cell_0 0 rfl rfl
theorem dX1_cell_1 : decode cX1_cell 1 = .ok (.sipush 325, 3) := dqrs2 dqK_17 dqw_cX1_cell_0 1 rfl rfl rfl rfl (by decide)
theorem dX1_cell_4 : decode cX1_cell 4 = .ok (.imul, 1) := dqr0 dqK_104 dqw_cX1_cell_0 4 rfl rfl
theorem dX1_cell_5 : decode cX1_cell 5 = .ok (.iload_n 2, 1) := dqr0 dqK_28 dqw_cX1_cell_0 5 rfl rfl
theorem dX1_cell_6 : decode cX1_cell 6 = .ok (.iconst 2, 1) := dqr0 dqK_5 dqw_cX1_cell_0 6 rfl rfl
theorem dX1_cell_7 : decode cX1_cell 7 = .ok (.aload_n 0, 1) := dqr0 dqK_42 dqw_cX1_cell_0 7 rfl rfl
theorem dX1_cell_8 : decode cX1_cell 8 = .ok (.getfield 22, 3) := dqr2 dqK_180 dqw_cX1_cell_0 8 rfl rfl rfl rfl rfl
theorem dX1_cell_11 : decode cX1_cell 11 = .ok (.imul, 1) := dqr0 dqK_104 dqw_cX1_cell_0 11 rfl rfl
theorem dX1_cell_12 : decode cX1_cell 12 = .ok (.iconst 3, 1) := dqr0 dqK_6 dqw_cX1_cell_0 12 rfl rfl
theorem dX1_cell_13 : decode cX1_cell 13 = .ok (.iadd, 1) := dqr0 dqK_96 dqw_cX1_cell_0 13 rfl rfl
theorem dX1_cell_14 : decode cX1_cell 14 = .ok (.iload_n 2, 1) := dqr0 dqK_28 dqw_cX1_cell_0 14 rfl rfl
theorem dX1_cell_15 : decode cX1_cell 15 = .ok (.isub, 1) := dqr0 dqK_100 dqw_cX1_cell_0 15 rfl rfl
theorem dX1_cell_16 : decode cX1_cell 16 = .ok (.imul, 1) := dqr0 dqK_104 dqw_cX1_cell_0 16 rfl rfl
theorem dX1_cell_17 : decode cX1_cell 17 = .ok (.iconst 2, 1) := dqr0 dqK_5 dqw_cX1_cell_0 17 rfl rfl
theorem dX1_cell_18 : decode cX1_cell 18 = .ok (.idiv, 1) := dqr0 dqK_108 dqw_cX1_cell_0 18 rfl rfl
theorem dX1_cell_19 : decode cX1_cell 19 = .ok (.iadd, 1) := dqr0 dqK_96 dqw_cX1_cell_0 19 rfl rfl
theorem dX1_cell_20 : decode cX1_cell 20 = .ok (.iload_n 3, 1) := dqr0 dqK_29 dqw_cX1_cell_0 20 rfl rfl
theorem dX1_cell_21 : decode cX1_cell 21 = .ok (.iadd, 1) := dqr0 dqK_96 dqw_cX1_cell_0 21 rfl rfl
theorem dX1_cell_22 : decode cX1_cell 22 = .ok (.iload_n 2, 1) := dqr0 dqK_28 dqw_cX1_cell_0 22 rfl rfl
theorem dX1_cell_23 : decode cX1_cell 23 = .ok (.isub, 1) := dqr0 dqK_100 dqw_cX1_cell_0 23 rfl rfl
theorem dqw_cX1_cell_24 : dqLF cX1_cell 24 [172] := by decide +kernel
theorem dX1_cell_24 : decode cX1_cell 24 = .ok (.ireturn, 1) := dqr0 dqK_172 dqw_cX1_cell_24 0 rfl rfl
theorem dqw_cX1_cellsInUse_0 : dqLF cX1_cellsInUse 0 [42, 180, 0, 22, 4, 96, 42, 180, 0, 22, 5, 96, 104, 5, 108, 172] := by decide +kernel
theorem dX1_cellsInUse_0 : decode cX1_cellsInUse 0 = .ok (.aload_n 0, 1) := dqr0 dqK_42 dqw_cX1_cellsInUse_0 0 rfl rfl
theorem dX1_cellsInUse_1 : decode cX1_cellsInUse 1 = .ok (.getfield 22, 3) := dqr2 dqK_180 dqw_cX1_cellsInUse_0 1 rfl rfl rfl rfl rfl
theorem dX1_cellsInUse_4 : decode cX1_cellsInUse 4 = .ok (.iconst 1, 1) := dqr0 dqK_4 dqw_cX1_cellsInUse_0 4 rfl rfl
theorem dX1_cellsInUse_5 : decode cX1_cellsInUse 5 = .ok (.iadd, 1) := dqr0 dqK_96 dqw_cX1_cellsInUse_0 5 rfl rfl
theorem dX1_cellsInUse_6 : decode cX1_cellsInUse 6 = .ok (.aload_n 0, 1) := dqr0 dqK_42 dqw_cX1_cellsInUse_0 6 rfl rfl
theorem dX1_cellsInUse_7 : decode cX1_cellsInUse 7 = .ok (.getfield 22, 3) := dqr2 dqK_180 dqw_cX1_cellsInUse_0 7 rfl rfl rfl rfl rfl
theorem dX1_cellsInUse_10 : decode cX1_cellsInUse 10 = .ok (.iconst 2, 1) := dqr0 dqK_5 dqw_cX1_cellsInUse_0 10 rfl rfl
theorem dX1_cellsInUse_11 : decode cX1_cellsInUse 11 = .ok (.iadd, 1) := dqr0 dqK_96 dqw_cX1_cellsInUse_0 11 rfl rfl
theorem dX1_cellsInUse_12 : decode cX1_cellsInUse 12 = .ok (.imul, 1) := dqr0 dqK_104 dqw_cX1_cellsInUse_0 12 rfl rfl
theorem dX1_cellsInUse_13 : decode cX1_cellsInUse 13 = .ok (.iconst 2, 1) := dqr0 dqK_5 dqw_cX1_cellsInUse_0 13 rfl rfl
theorem dX1_cellsInUse_14 : decode cX1_cellsInUse 14 = .ok (.idiv, 1) := dqr0 dqK_108 dqw_cX1_cellsInUse_0 14 rfl rfl
theorem dX1_cellsInUse_15 : decode cX1_cellsInUse 15 = .ok (.ireturn, 1) := dqr0 dqK_172 dqw_cX1_cellsInUse_0 15 rfl rfl
theorem dqw_cX1_clear_0 : dqLF cX1_clear 0 [42, 182, 0, 130, 61, 3, 62, 29, 28, 162, 0, 22, 42, 180, 0, 11, 27, 17, 1, 69, 104, 29, 96, 3] := by decide +kernel
theorem dX1_clear_0 : decode cX1_clear 0 = .ok (.aload_n 0, 1) := dqr0 dqK_42 dqw_cX1_clear_0 0 rfl rfl
theorem dX1_clear_1 : decode cX1_clear 1 = .ok (.invokevirtual 130, 3) := dqr2 dqK_182 dqw_cX1_clear_0 1 rfl rfl rfl rfl rfl
theorem dX1_clear_4 : decode cX1_clear 4 = .ok (.istore_n 2, 1) := dqr0 dqK_61 dqw_cX1_clear_0 4 rfl rfl
theorem dX1_clear_5 : decode cX1_clear 5 = .ok (.iconst 0, 1) := dqr0 dqK_3 dqw_cX1_clear_0 5 rfl rfl
theorem dX1_clear_6 : decode cX1_clear 6 = .ok (.istore_n 3, 1) := dqr0 dqK_62 dqw_cX1_clear_0 6 rfl rfl
theorem dX1_clear_7 : decode cX1_clear 7 = .ok (.iload_n 3, 1) := dqr0 dqK_29 dqw_cX1_clear_0 7 rfl rfl
theorem dX1_clear_8 : decode cX1_clear 8 = .ok (.iload_n 2, 1) := dqr0 dqK_28 dqw_cX1_clear_0 8 rfl rfl
theorem dX1_clear_9 : decode cX1_clear 9 = .ok (.if_icmp .ge 22, 3) := dqrs2 dqK_162 dqw_cX1_clear_0 9 rfl rfl rfl rfl (by decide)
theorem dX1_clear_12 : decode cX1_clear 12 = .ok (.aload_n 0, 1) := dqr0 dqK_42 dqw_cX1_clear_0 12 rfl rfl
theorem dX1_clear_13 : decode cX1_clear 13 = .ok (.getfield 11, 3) := dqr2 dqK_180 dqw_cX1_clear_0 13 rfl rfl rfl rfl rfl
theorem dX1_clear_16 : decode cX1_clear 16 = .ok (.iload_n 1, 1) := dqr0 dqK_27 dqw_cX1_clear_0 16 rfl rfl
theorem dX1_clear_17 : decode cX1_clear 17 = .ok (.sipush 325, 3) := dqrs2 dqK_17 dqw_cX1_clear_0 17 rfl rfl rfl rfl (by decide)
theorem dX1_clear_20 : decode cX1_clear 20 = .ok (.imul, 1) := dqr0 dqK_104 dqw_cX1_clear_0 20 rfl rfl
theorem dX1_clear_21 : decode cX1_clear 21 = .ok (.iload_n 3, 1) := dqr0 dqK_29 dqw_cX1_clear_0 21 rfl rfl
theorem dX1_clear_22 : decode cX1_clear 22 = .ok (.iadd, 1) := dqr0 dqK_96 dqw_cX1_clear_0 22 rfl rfl
theorem dX1_clear_23 : decode cX1_clear 23 = .ok (.iconst 0, 1) := dqr0 dqK_3 dqw_cX1_clear_0 23 rfl rfl
theorem dqw_cX1_clear_24 : dqLF cX1_clear 24 [79, 132, 3, 1, 167, 255, 235, 177] := by decide +kernel
theorem dX1_clear_24 : decode cX1_clear 24 = .ok (.iastore, 1) := dqr0 dqK_79 dqw_cX1_clear_24 0 rfl rfl
theorem dX1_clear_25 : decode cX1_clear 25 = .ok (.iinc 3 1, 3) := dqri dqK_132 dqw_cX1_clear_24 1 rfl rfl rfl rfl (by decide)
theorem dX1_clear_28 : decode cX1_clear 28 = .ok (.goto (-21), 3) := dqrs2 dqK_167 dqw_cX1_clear_24 4 rfl rfl rfl rfl (by decide)
theorem dX1_clear_31 : decode cX1_clear 31 = .ok (.return_, 1) := dqr0 dqK_177 dqw_cX1_clear_24 7 rfl rfl
theorem dqw_cX1_addOne_0 : dqLF cX1_addOne 0 [3, 61, 28, 42, 180, 0, 22, 163, 0, 36, 42, 27, 28, 28, 182, 0, 69, 62, 42, 180, 0, 11, 29, 42] := by decide +kernel
theorem dX1_addOne_0 : decode cX1_addOne 0 = .ok (.iconst 0, 1) := dqr0 dqK_3 dqw_cX1_addOne_0 0 rfl rfl
theorem dX1_addOne_1 : decode cX1_addOne 1 = .ok (.istore_n 2, 1) := dqr0 dqK_61 dqw_cX1_addOne_0 1 rfl rfl
theorem dX1_addOne_2 : decode cX1_addOne 2 = .ok (.iload_n 2, 1) := dqr0 dqK_28 dqw_cX1_addOne_0 2 rfl rfl
theorem dX1_addOne_3 : decode cX1_addOne 3 = .ok (.aload_n 0, 1) := dqr0 dqK_42 dqw_cX1_addOne_0 3 rfl rfl
theorem dX1_addOne_4 : decode cX1_addOne 4 = .ok (.getfield 22, 3) := dqr2 dqK_180 dqw_cX1_addOne_0 4 rfl rfl rfl rfl rfl
theorem dX1_addOne_7 : decode cX1_addOne 7 = .ok (.if_icmp .gt 36, 3) := dqrs2 dqK_163 dqw_cX1_addOne_0 7 rfl rfl rfl rfl (by decide)
theorem dX1_addOne_10 : decode cX1_addOne 10 = .ok (.aload_n 0, 1) := dqr0 dqK_42 dqw_cX1_addOne_0 10 rfl rfl
theorem dX1_addOne_11 : decode cX1_addOne 11 = .ok (.iload_n 1, 1) := dqr0 dqK_27 dqw_cX1_addOne_0 11 rfl rfl
theorem dX1_addOne_12 : decode cX1_addOne 12 = .ok (.iload_n 2, 1) := dqr0 dqK_28 dqw_cX1_addOne_0 12 rfl rfl
theorem dX1_addOne_13 : decode cX1_addOne 13 = .ok (.iload_n 2, 1) := dqr0 dqK_28 dqw_cX1_addOne_0 13 rfl rfl
theorem dX1_addOne_14 : decode cX1_addOne 14 = .ok (.invokevirtual 69, 3) := dqr2 dqK_182 dqw_cX1_addOne_0 14 rfl rfl rfl rfl rfl
theorem dX1_addOne_17 : decode cX1_addOne 17 = .ok (.istore_n 3, 1) := dqr0 dqK_62 dqw_cX1_addOne_0 17 rfl rfl
theorem dX1_addOne_18 : decode cX1_addOne 18 = .ok (.aload_n 0, 1) := dqr0 dqK_42 dqw_cX1_addOne_0 18 rfl rfl
theorem dX1_addOne_19 : decode cX1_addOne 19 = .ok (.getfield 11, 3) := dqr2 dqK_180 dqw_cX1_addOne_0 19 rfl rfl rfl rfl rfl
theorem dX1_addOne_22 : decode cX1_addOne 22 = .ok (.iload_n 3, 1) := dqr0 dqK_29 dqw_cX1_addOne_0 22 rfl rfl
theorem dX1_addOne_23 : decode cX1_addOne 23 = .ok (.aload_n 0, 1) := dqr0 dqK_42 dqw_cX1_addOne_0 23 rfl rfl
theorem dqw_cX1_addOne_24 : dqLF cX1_addOne 24 [180, 0, 11, 29, 46, 4, 96, 18, 134, 184, 0, 135, 79, 132, 2, 1, 167, 255, 218, 177] := by decide +kernel
theorem dX1_addOne_24 : decode cX1_addOne 24 = .ok (.getfield 11, 3) := dqr2 dqK_180 dqw_cX1_addOne_24 0 rfl rfl rfl rfl rfl
theorem dX1_addOne_27 : decode cX1_addOne 27 = .ok (.iload_n 3, 1) := dqr0 dqK_29 dqw_cX1_addOne_24 3 rfl rfl
theorem dX1_addOne_28 : decode cX1_addOne 28 = .ok (.iaload, 1) := dqr0 dqK_46 dqw_cX1_addOne_24 4 rfl rfl
theorem dX1_addOne_29 : decode cX1_addOne 29 = .ok (.iconst 1, 1) := dqr0 dqK_4 dqw_cX1_addOne_24 5 rfl rfl
theorem dX1_addOne_30 : decode cX1_addOne 30 = .ok (.iadd, 1) := dqr0 dqK_96 dqw_cX1_addOne_24 6 rfl rfl
theorem dX1_addOne_31 : decode cX1_addOne 31 = .ok (.ldc 134, 2) := dqr1 dqK_18 dqw_cX1_addOne_24 7 rfl rfl rfl
theorem dX1_addOne_33 : decode cX1_addOne 33 = .ok (.invokestatic 135, 3) := dqr2 dqK_184 dqw_cX1_addOne_24 9 rfl rfl rfl rfl rfl
theorem dX1_addOne_36 : decode cX1_addOne 36 = .ok (.iastore, 1) := dqr0 dqK_79 dqw_cX1_addOne_24 12 rfl rfl
theorem dX1_addOne_37 : decode cX1_addOne 37 = .ok (.iinc 2 1, 3) := dqri dqK_132 dqw_cX1_addOne_24 13 rfl rfl rfl rfl (by decide)
theorem dX1_addOne_40 : decode cX1_addOne 40 = .ok (.goto (-38), 3) := dqrs2 dqK_167 dqw_cX1_addOne_24 16 rfl rfl rfl rfl (by decide)
theorem dX1_addOne_43 : decode cX1_addOne 43 = .ok (.return_, 1) := dqr0 dqK_177 dqw_cX1_addOne_24 19 rfl rfl
theorem dqw_cX1_addTable_0 : dqLF cX1_addTable 0 [42, 182, 0, 130, 62, 3, 54, 4, 21, 4, 29, 162, 0, 58, 42, 180, 0, 11, 27, 17, 1, 69, 104] := by decide +kernel
theorem dX1_addTable_0 : decode cX1_addTable 0 = .ok (.aload_n 0, 1) := dqr0 dqK_42 dqw_cX1_addTable_0 0 rfl rfl
theorem dX1_addTable_1 : decode cX1_addTable 1 = .ok (.invokevirtual 130, 3) := dqr2 dqK_182 dqw_cX1_addTable_0 1 rfl rfl rfl rfl rfl
theorem dX1_addTable_4 : decode cX1_addTable 4 = .ok (.istore_n 3, 1) := dqr0 dqK_62 dqw_cX1_addTable_0 4 rfl rfl
theorem dX1_addTable_5 : decode cX1_addTable 5 = .ok (.iconst 0, 1) := dqr0 dqK_3 dqw_cX1_addTable_0 5 rfl rfl
theorem dX1_addTable_6 : decode cX1_addTable 6 = .ok (.istore 4, 2) := dqr1 dqK_54 dqw_cX1_addTable_0 6 rfl rfl rfl
theorem dX1_addTable_8 : decode cX1_addTable 8 = .ok (.iload 4, 2) := dqr1 dqK_21 dqw_cX1_addTable_0 8 rfl rfl rfl
theorem dX1_addTable_10 : decode cX1_addTable 10 = .ok (.iload_n 3, 1) := dqr0 dqK_29 dqw_cX1_addTable_0 10 rfl rfl
theorem dX1_addTable_11 : decode cX1_addTable 11 = .ok (.if_icmp .ge 58, 3) := dqrs2 dqK_162 dqw_cX1_addTable_0 11 rfl rfl rfl rfl (by decide)
theorem dX1_addTable_14 : decode cX1_addTable 14 = .ok (.aload_n 0, 1) := dqr0 dqK_42 dqw_cX1_addTable_0 14 rfl rfl
theorem dX1_addTable_15 : decode cX1_addTable 15 = .ok (.getfield 11, 3) := dqr2 dqK_180 dqw_cX1_addTable_0 15 rfl rfl rfl rfl rfl
theorem dX1_addTable_18 : decode cX1_addTable 18 = .ok (.iload_n 1, 1) := dqr0 dqK_27 dqw_cX1_addTable_0 18 rfl rfl
theorem dX1_addTable_19 : decode cX1_addTable 19 = .ok (.sipush 325, 3) := dqrs2 dqK_17 dqw_cX1_addTable_0 19 rfl rfl rfl rfl (by decide)
theorem dX1_addTable_22 : decode cX1_addTable 22 = .ok (.imul, 1) := dqr0 dqK_104 dqw_cX1_addTable_0 22 rfl rfl
theorem dqw_cX1_addTable_23 : dqLF cX1_addTable 23 [21, 4, 96, 46, 42, 180, 0, 11, 28, 17, 1, 69, 104, 21, 4, 96, 46, 96, 54, 5, 42, 180, 0, 11] := by decide +kernel
theorem dX1_addTable_23 : decode cX1_addTable 23 = .ok (.iload 4, 2) := dqr1 dqK_21 dqw_cX1_addTable_23 0 rfl rfl rfl
theorem dX1_addTable_25 : decode cX1_addTable 25 = .ok (.iadd, 1) := dqr0 dqK_96 dqw_cX1_addTable_23 2 rfl rfl
theorem dX1_addTable_26 : decode cX1_addTable 26 = .ok (.iaload, 1) := dqr0 dqK_46 dqw_cX1_addTable_23 3 rfl rfl
theorem dX1_addTable_27 : decode cX1_addTable 27 = .ok (.aload_n 0, 1) := dqr0 dqK_42 dqw_cX1_addTable_23 4 rfl rfl
theorem dX1_addTable_28 : decode cX1_addTable 28 = .ok (.getfield 11, 3) := dqr2 dqK_180 dqw_cX1_addTable_23 5 rfl rfl rfl rfl rfl
theorem dX1_addTable_31 : decode cX1_addTable 31 = .ok (.iload_n 2, 1) := dqr0 dqK_28 dqw_cX1_addTable_23 8 rfl rfl
theorem dX1_addTable_32 : decode cX1_addTable 32 = .ok (.sipush 325, 3) := dqrs2 dqK_17 dqw_cX1_addTable_23 9 rfl rfl rfl rfl (by decide)
theorem dX1_addTable_35 : decode cX1_addTable 35 = .ok (.imul, 1) := dqr0 dqK_104 dqw_cX1_addTable_23 12 rfl rfl
theorem dX1_addTable_36 : decode cX1_addTable 36 = .ok (.iload 4, 2) := dqr1 dqK_21 dqw_cX1_addTable_23 13 rfl rfl rfl
theorem dX1_addTable_38 : decode cX1_addTable 38 = .ok (.iadd, 1) := dqr0 dqK_96 dqw_cX1_addTable_23 15 rfl rfl
theorem dX1_addTable_39 : decode cX1_addTable 39 = .ok (.iaload, 1) := dqr0 dqK_46 dqw_cX1_addTable_23 16 rfl rfl
theorem dX1_addTable_40 : decode cX1_addTable 40 = .ok (.iadd, 1) := dqr0 dqK_96 dqw_cX1_addTable_23 17 rfl rfl
theorem dX1_addTable_41 : decode cX1_addTable 41 = .ok (.istore 5, 2) := dqr1 dqK_54 dqw_cX1_addTable_23 18 rfl rfl rfl
theorem dX1_addTable_43 : decode cX1_addTable 43 = .ok (.aload_n 0, 1) := dqr0 dqK_42 dqw_cX1_addTable_23 20 rfl rfl
theorem dX1_addTable_44 : decode cX1_addTable 44 = .ok (.getfield 11, 3) := dqr2 dqK_180 dqw_cX1_addTable_23 21 rfl rfl rfl rfl rfl
theorem dqw_cX1_addTable_47 : dqLF cX1_addTable 47 [27, 17, 1, 69, 104, 21, 4, 96, 21, 5, 18, 134, 184, 0, 135, 79, 132, 4, 1, 167, 255, 198, 177] := by decide +kernel
theorem dX1_addTable_47 : decode cX1_addTable 47 = .ok (.iload_n 1, 1) := dqr0 dqK_27 dqw_cX1_addTable_47 0 rfl rfl
theorem dX1_addTable_48 : decode cX1_addTable 48 = .ok (.sipush 325, 3) := dqrs2 dqK_17 dqw_cX1_addTable_47 1 rfl rfl rfl rfl (by decide)
theorem dX1_addTable_51 : decode cX1_addTable 51 = .ok (.imul, 1) := dqr0 dqK_104 dqw_cX1_addTable_47 4 rfl rfl
theorem dX1_addTable_52 : decode cX1_addTable 52 = .ok (.iload 4, 2) := dqr1 dqK_21 dqw_cX1_addTable_47 5 rfl rfl rfl
theorem dX1_addTable_54 : decode cX1_addTable 54 = .ok (.iadd, 1) := dqr0 dqK_96 dqw_cX1_addTable_47 7 rfl rfl
theorem dX1_addTable_55 : decode cX1_addTable 55 = .ok (.iload 5, 2) := dqr1 dqK_21 dqw_cX1_addTable_47 8 rfl rfl rfl
theorem dX1_addTable_57 : decode cX1_addTable 57 = .ok (.ldc 134, 2) := dqr1 dqK_18 dqw_cX1_addTable_47 10 rfl rfl rfl
theorem dX1_addTable_59 : decode cX1_addTable 59 = .ok (.invokestatic 135, 3) := dqr2 dqK_184 dqw_cX1_addTable_47 12 rfl rfl rfl rfl rfl
theorem dX1_addTable_62 : decode cX1_addTable 62 = .ok (.iastore, 1) := dqr0 dqK_79 dqw_cX1_addTable_47 15 rfl rfl
theorem dX1_addTable_63 : decode cX1_addTable 63 = .ok (.iinc 4 1, 3) := dqri dqK_132 dqw_cX1_addTable_47 16 rfl rfl rfl rfl (by decide)
theorem dX1_addTable_66 : decode cX1_addTable 66 = .ok (.goto (-58), 3) := dqrs2 dqK_167 dqw_cX1_addTable_47 19 rfl rfl rfl rfl (by decide)
theorem dX1_addTable_69 : decode cX1_addTable 69 = .ok (.return_, 1) := dqr0 dqK_177 dqw_cX1_addTable_47 22 rfl rfl
theorem dqw_cX1_followBySlot_0 : dqLF cX1_followBySlot 0 [3, 61, 28, 42, 180, 0, 22, 163, 0, 100, 42, 180, 0, 22, 62, 29, 28, 164, 0, 68, 42, 180, 0, 11] := by decide +kernel
theorem dX1_followBySlot_0 : decode cX1_followBySlot 0 = .ok (.iconst 0, 1) := dqr0 dqK_3 dqw_cX1_followBySlot_0 0 rfl rfl
theorem dX1_followBySlot_1 : decode cX1_followBySlot 1 = .ok (.istore_n 2, 1) := dqr0 dqK_61 dqw_cX1_followBySlot_0 1 rfl rfl
theorem dX1_followBySlot_2 : decode cX1_followBySlot 2 = .ok (.iload_n 2, 1) := dqr0 dqK_28 dqw_cX1_followBySlot_0 2 rfl rfl
theorem dX1_followBySlot_3 : decode cX1_followBySlot 3 = .ok (.aload_n 0, 1) := dqr0 dqK_42 dqw_cX1_followBySlot_0 3 rfl rfl
theorem dX1_followBySlot_4 : decode cX1_followBySlot 4 = .ok (.getfield 22, 3) := dqr2 dqK_180 dqw_cX1_followBySlot_0 4 rfl rfl rfl rfl rfl
theorem dX1_followBySlot_7 : decode cX1_followBySlot 7 = .ok (.if_icmp .gt 100, 3) := dqrs2 dqK_163 dqw_cX1_followBySlot_0 7 rfl rfl rfl rfl (by decide)
theorem dX1_followBySlot_10 : decode cX1_followBySlot 10 = .ok (.aload_n 0, 1) := dqr0 dqK_42 dqw_cX1_followBySlot_0 10 rfl rfl
theorem dX1_followBySlot_11 : decode cX1_followBySlot 11 = .ok (.getfield 22, 3) := dqr2 dqK_180 dqw_cX1_followBySlot_0 11 rfl rfl rfl rfl rfl
theorem dX1_followBySlot_14 : decode cX1_followBySlot 14 = .ok (.istore_n 3, 1) := dqr0 dqK_62 dqw_cX1_followBySlot_0 14 rfl rfl
theorem dX1_followBySlot_15 : decode cX1_followBySlot 15 = .ok (.iload_n 3, 1) := dqr0 dqK_29 dqw_cX1_followBySlot_0 15 rfl rfl
theorem dX1_followBySlot_16 : decode cX1_followBySlot 16 = .ok (.iload_n 2, 1) := dqr0 dqK_28 dqw_cX1_followBySlot_0 16 rfl rfl
theorem dX1_followBySlot_17 : decode cX1_followBySlot 17 = .ok (.if_icmp .le 68, 3) := dqrs2 dqK_164 dqw_cX1_followBySlot_0 17 rfl rfl rfl rfl (by decide)
theorem dX1_followBySlot_20 : decode cX1_followBySlot 20 = .ok (.aload_n 0, 1) := dqr0 dqK_42 dqw_cX1_followBySlot_0 20 rfl rfl
theorem dX1_followBySlot_21 : decode cX1_followBySlot 21 = .ok (.getfield 11, 3) := dqr2 dqK_180 dqw_cX1_followBySlot_0 21 rfl rfl rfl rfl rfl
theorem dqw_cX1_followBySlot_24 : dqLF cX1_followBySlot 24 [42, 42, 180, 0, 26, 28, 29, 4, 100, 182, 0, 69, 46, 133, 42, 180, 0, 15, 29, 4, 100, 16, 8, 104] := by decide +kernel
theorem dX1_followBySlot_24 : decode cX1_followBySlot 24 = .ok (.aload_n 0, 1) := dqr0 dqK_42 dqw_cX1_followBySlot_24 0 rfl rfl
theorem dX1_followBySlot_25 : decode cX1_followBySlot 25 = .ok (.aload_n 0, 1) := dqr0 dqK_42 dqw_cX1_followBySlot_24 1 rfl rfl
theorem dX1_followBySlot_26 : decode cX1_followBySlot 26 = .ok (.getfield 26, 3) := dqr2 dqK_180 dqw_cX1_followBySlot_24 2 rfl rfl rfl rfl rfl
theorem dX1_followBySlot_29 : decode cX1_followBySlot 29 = .ok (.iload_n 2, 1) := dqr0 dqK_28 dqw_cX1_followBySlot_24 5 rfl rfl
theorem dX1_followBySlot_30 : decode cX1_followBySlot 30 = .ok (.iload_n 3, 1) := dqr0 dqK_29 dqw_cX1_followBySlot_24 6 rfl rfl
theorem dX1_followBySlot_31 : decode cX1_followBySlot 31 = .ok (.iconst 1, 1) := dqr0 dqK_4 dqw_cX1_followBySlot_24 7 rfl rfl
theorem dX1_followBySlot_32 : decode cX1_followBySlot 32 = .ok (.isub, 1) := dqr0 dqK_100 dqw_cX1_followBySlot_24 8 rfl rfl
theorem dX1_followBySlot_33 : decode cX1_followBySlot 33 = .ok (.invokevirtual 69, 3) := dqr2 dqK_182 dqw_cX1_followBySlot_24 9 rfl rfl rfl rfl rfl
theorem dX1_followBySlot_36 : decode cX1_followBySlot 36 = .ok (.iaload, 1) := dqr0 dqK_46 dqw_cX1_followBySlot_24 12 rfl rfl
theorem dX1_followBySlot_37 : decode cX1_followBySlot 37 = .ok (.i2l, 1) := dqr0 dqK_133 dqw_cX1_followBySlot_24 13 rfl rfl
theorem dX1_followBySlot_38 : decode cX1_followBySlot 38 = .ok (.aload_n 0, 1) := dqr0 dqK_42 dqw_cX1_followBySlot_24 14 rfl rfl
theorem dX1_followBySlot_39 : decode cX1_followBySlot 39 = .ok (.getfield 15, 3) := dqr2 dqK_180 dqw_cX1_followBySlot_24 15 rfl rfl rfl rfl rfl
theorem dX1_followBySlot_42 : decode cX1_followBySlot 42 = .ok (.iload_n 3, 1) := dqr0 dqK_29 dqw_cX1_followBySlot_24 18 rfl rfl
theorem dX1_followBySlot_43 : decode cX1_followBySlot 43 = .ok (.iconst 1, 1) := dqr0 dqK_4 dqw_cX1_followBySlot_24 19 rfl rfl
theorem dX1_followBySlot_44 : decode cX1_followBySlot 44 = .ok (.isub, 1) := dqr0 dqK_100 dqw_cX1_followBySlot_24 20 rfl rfl
theorem dX1_followBySlot_45 : decode cX1_followBySlot 45 = .ok (.bipush 8, 2) := dqrs1 dqK_16 dqw_cX1_followBySlot_24 21 rfl rfl rfl (by decide)
theorem dX1_followBySlot_47 : decode cX1_followBySlot 47 = .ok (.imul, 1) := dqr0 dqK_104 dqw_cX1_followBySlot_24 23 rfl rfl
theorem dqw_cX1_followBySlot_48 : dqLF cX1_followBySlot 48 [27, 96, 46, 133, 105, 55, 4, 42, 180, 0, 11, 42, 42, 180, 0, 26, 28, 29, 182, 0, 69, 22, 4] := by decide +kernel
theorem dX1_followBySlot_48 : decode cX1_followBySlot 48 = .ok (.iload_n 1, 1) := dqr0 dqK_27 dqw_cX1_followBySlot_48 0 rfl rfl
theorem dX1_followBySlot_49 : decode cX1_followBySlot 49 = .ok (.iadd, 1) := dqr0 dqK_96 dqw_cX1_followBySlot_48 1 rfl rfl
theorem dX1_followBySlot_50 : decode cX1_followBySlot 50 = .ok (.iaload, 1) := dqr0 dqK_46 dqw_cX1_followBySlot_48 2 rfl rfl
theorem dX1_followBySlot_51 : decode cX1_followBySlot 51 = .ok (.i2l, 1) := dqr0 dqK_133 dqw_cX1_followBySlot_48 3 rfl rfl
theorem dX1_followBySlot_52 : decode cX1_followBySlot 52 = .ok (.lmul, 1) := dqr0 dqK_105 dqw_cX1_followBySlot_48 4 rfl rfl
theorem dX1_followBySlot_53 : decode cX1_followBySlot 53 = .ok (.lstore 4, 2) := dqr1 dqK_55 dqw_cX1_followBySlot_48 5 rfl rfl rfl
theorem dX1_followBySlot_55 : decode cX1_followBySlot 55 = .ok (.aload_n 0, 1) := dqr0 dqK_42 dqw_cX1_followBySlot_48 7 rfl rfl
theorem dX1_followBySlot_56 : decode cX1_followBySlot 56 = .ok (.getfield 11, 3) := dqr2 dqK_180 dqw_cX1_followBySlot_48 8 rfl rfl rfl rfl rfl
theorem dX1_followBySlot_59 : decode cX1_followBySlot 59 = .ok (.aload_n 0, 1) := dqr0 dqK_42 dqw_cX1_followBySlot_48 11 rfl rfl
theorem dX1_followBySlot_60 : decode cX1_followBySlot 60 = .ok (.aload_n 0, 1) := dqr0 dqK_42 dqw_cX1_followBySlot_48 12 rfl rfl
theorem dX1_followBySlot_61 : decode cX1_followBySlot 61 = .ok (.getfield 26, 3) := dqr2 dqK_180 dqw_cX1_followBySlot_48 13 rfl rfl rfl rfl rfl
theorem dX1_followBySlot_64 : decode cX1_followBySlot 64 = .ok (.iload_n 2, 1) := dqr0 dqK_28 dqw_cX1_followBySlot_48 16 rfl rfl
theorem dX1_followBySlot_65 : decode cX1_followBySlot 65 = .ok (.iload_n 3, 1) := dqr0 dqK_29 dqw_cX1_followBySlot_48 17 rfl rfl
theorem dX1_followBySlot_66 : decode cX1_followBySlot 66 = .ok (.invokevirtual 69, 3) := dqr2 dqK_182 dqw_cX1_followBySlot_48 18 rfl rfl rfl rfl rfl
theorem dX1_followBySlot_69 : decode cX1_followBySlot 69 = .ok (.lload 4, 2) := dqr1 dqK_22 dqw_cX1_followBySlot_48 21 rfl rfl rfl
theorem dqw_cX1_followBySlot_71 : dqLF cX1_followBySlot 71 [20, 0, 140, 184, 0, 142, 136, 79, 132, 3, 255, 167, 255, 189, 42, 180, 0, 11, 42, 42, 180, 0, 26, 28] := by decide +kernel
theorem dX1_followBySlot_71 : decode cX1_followBySlot 71 = .ok (.ldc2_w 140, 3) := dqr2 dqK_20 dqw_cX1_followBySlot_71 0 rfl rfl rfl rfl rfl
theorem dX1_followBySlot_74 : decode cX1_followBySlot 74 = .ok (.invokestatic 142, 3) := dqr2 dqK_184 dqw_cX1_followBySlot_71 3 rfl rfl rfl rfl rfl
theorem dX1_followBySlot_77 : decode cX1_followBySlot 77 = .ok (.l2i, 1) := dqr0 dqK_136 dqw_cX1_followBySlot_71 6 rfl rfl
theorem dX1_followBySlot_78 : decode cX1_followBySlot 78 = .ok (.iastore, 1) := dqr0 dqK_79 dqw_cX1_followBySlot_71 7 rfl rfl
theorem dX1_followBySlot_79 : decode cX1_followBySlot 79 = .ok (.iinc 3 (-1), 3) := dqri dqK_132 dqw_cX1_followBySlot_71 8 rfl rfl rfl rfl (by decide)
theorem dX1_followBySlot_82 : decode cX1_followBySlot 82 = .ok (.goto (-67), 3) := dqrs2 dqK_167 dqw_cX1_followBySlot_71 11 rfl rfl rfl rfl (by decide)
theorem dX1_followBySlot_85 : decode cX1_followBySlot 85 = .ok (.aload_n 0, 1) := dqr0 dqK_42 dqw_cX1_followBySlot_71 14 rfl rfl
theorem dX1_followBySlot_86 : decode cX1_followBySlot 86 = .ok (.getfield 11, 3) := dqr2 dqK_180 dqw_cX1_followBySlot_71 15 rfl rfl rfl rfl rfl
theorem dX1_followBySlot_89 : decode cX1_followBySlot 89 = .ok (.aload_n 0, 1) := dqr0 dqK_42 dqw_cX1_followBySlot_71 18 rfl rfl
theorem dX1_followBySlot_90 : decode cX1_followBySlot 90 = .ok (.aload_n 0, 1) := dqr0 dqK_42 dqw_cX1_followBySlot_71 19 rfl rfl
theorem dX1_followBySlot_91 : decode cX1_followBySlot 91 = .ok (.getfield 26, 3) := dqr2 dqK_180 dqw_cX1_followBySlot_71 20 rfl rfl rfl rfl rfl
theorem dX1_followBySlot_94 : decode cX1_followBySlot 94 = .ok (.iload_n 2, 1) := dqr0 dqK_28 dqw_cX1_followBySlot_71 23 rfl rfl
theorem dqw_cX1_followBySlot_95 : dqLF cX1_followBySlot 95 [28, 182, 0, 69, 3, 79, 132, 2, 1, 167, 255, 154, 177] := by decide +kernel
theorem dX1_followBySlot_95 : decode cX1_followBySlot 95 = .ok (.iload_n 2, 1) := dqr0 dqK_28 dqw_cX1_followBySlot_95 0 rfl rfl
theorem dX1_followBySlot_96 : decode cX1_followBySlot 96 = .ok (.invokevirtual 69, 3) := dqr2 dqK_182 dqw_cX1_followBySlot_95 1 rfl rfl rfl rfl rfl
theorem dX1_followBySlot_99 : decode cX1_followBySlot 99 = .ok (.iconst 0, 1) := dqr0 dqK_3 dqw_cX1_followBySlot_95 4 rfl rfl
theorem dX1_followBySlot_100 : decode cX1_followBySlot 100 = .ok (.iastore, 1) := dqr0 dqK_79 dqw_cX1_followBySlot_95 5 rfl rfl
theorem dX1_followBySlot_101 : decode cX1_followBySlot 101 = .ok (.iinc 2 1, 3) := dqri dqK_132 dqw_cX1_followBySlot_95 6 rfl rfl rfl rfl (by decide)
theorem dX1_followBySlot_104 : decode cX1_followBySlot 104 = .ok (.goto (-102), 3) := dqrs2 dqK_167 dqw_cX1_followBySlot_95 9 rfl rfl rfl rfl (by decide)
theorem dX1_followBySlot_107 : decode cX1_followBySlot 107 = .ok (.return_, 1) := dqr0 dqK_177 dqw_cX1_followBySlot_95 12 rfl rfl
theorem dqw_cX1_multiply_0 : dqLF cX1_multiply 0 [3, 62, 29, 42, 180, 0, 22, 163, 0, 149, 42, 180, 0, 22, 54, 4, 21, 4, 29, 161, 0, 131, 42, 27] := by decide +kernel
theorem dX1_multiply_0 : decode cX1_multiply 0 = .ok (.iconst 0, 1) := dqr0 dqK_3 dqw_cX1_multiply_0 0 rfl rfl
theorem dX1_multiply_1 : decode cX1_multiply 1 = .ok (.istore_n 3, 1) := dqr0 dqK_62 dqw_cX1_multiply_0 1 rfl rfl
theorem dX1_multiply_2 : decode cX1_multiply 2 = .ok (.iload_n 3, 1) := dqr0 dqK_29 dqw_cX1_multiply_0 2 rfl rfl
theorem dX1_multiply_3 : decode cX1_multiply 3 = .ok (.aload_n 0, 1) := dqr0 dqK_42 dqw_cX1_multiply_0 3 rfl rfl
theorem dX1_multiply_4 : decode cX1_multiply 4 = .ok (.getfield 22, 3) := dqr2 dqK_180 dqw_cX1_multiply_0 4 rfl rfl rfl rfl rfl
theorem dX1_multiply_7 : decode cX1_multiply 7 = .ok (.if_icmp .gt 149, 3) := dqrs2 dqK_163 dqw_cX1_multiply_0 7 rfl rfl rfl rfl (by decide)
theorem dX1_multiply_10 : decode cX1_multiply 10 = .ok (.aload_n 0, 1) := dqr0 dqK_42 dqw_cX1_multiply_0 10 rfl rfl
theorem dX1_multiply_11 : decode cX1_multiply 11 = .ok (.getfield 22, 3) := dqr2 dqK_180 dqw_cX1_multiply_0 11 rfl rfl rfl rfl rfl
theorem dX1_multiply_14 : decode cX1_multiply 14 = .ok (.istore 4, 2) := dqr1 dqK_54 dqw_cX1_multiply_0 14 rfl rfl rfl
theorem dX1_multiply_16 : decode cX1_multiply 16 = .ok (.iload 4, 2) := dqr1 dqK_21 dqw_cX1_multiply_0 16 rfl rfl rfl
theorem dX1_multiply_18 : decode cX1_multiply 18 = .ok (.iload_n 3, 1) := dqr0 dqK_29 dqw_cX1_multiply_0 18 rfl rfl
theorem dX1_multiply_19 : decode cX1_multiply 19 = .ok (.if_icmp .lt 131, 3) := dqrs2 dqK_161 dqw_cX1_multiply_0 19 rfl rfl rfl rfl (by decide)
theorem dX1_multiply_22 : decode cX1_multiply 22 = .ok (.aload_n 0, 1) := dqr0 dqK_42 dqw_cX1_multiply_0 22 rfl rfl
theorem dX1_multiply_23 : decode cX1_multiply 23 = .ok (.iload_n 1, 1) := dqr0 dqK_27 dqw_cX1_multiply_0 23 rfl rfl
theorem dqw_cX1_multiply_24 : dqLF cX1_multiply 24 [29, 21, 4, 182, 0, 69, 54, 5, 42, 28, 21, 4, 21, 4, 182, 0, 69, 54, 6, 42, 180, 0, 11] := by decide +kernel
theorem dX1_multiply_24 : decode cX1_multiply 24 = .ok (.iload_n 3, 1) := dqr0 dqK_29 dqw_cX1_multiply_24 0 rfl rfl
theorem dX1_multiply_25 : decode cX1_multiply 25 = .ok (.iload 4, 2) := dqr1 dqK_21 dqw_cX1_multiply_24 1 rfl rfl rfl
theorem dX1_multiply_27 : decode cX1_multiply 27 = .ok (.invokevirtual 69, 3) := dqr2 dqK_182 dqw_cX1_multiply_24 3 rfl rfl rfl rfl rfl
theorem dX1_multiply_30 : decode cX1_multiply 30 = .ok (.istore 5, 2) := dqr1 dqK_54 dqw_cX1_multiply_24 6 rfl rfl rfl
theorem dX1_multiply_32 : decode cX1_multiply 32 = .ok (.aload_n 0, 1) := dqr0 dqK_42 dqw_cX1_multiply_24 8 rfl rfl
theorem dX1_multiply_33 : decode cX1_multiply 33 = .ok (.iload_n 2, 1) := dqr0 dqK_28 dqw_cX1_multiply_24 9 rfl rfl
theorem dX1_multiply_34 : decode cX1_multiply 34 = .ok (.iload 4, 2) := dqr1 dqK_21 dqw_cX1_multiply_24 10 rfl rfl rfl
theorem dX1_multiply_36 : decode cX1_multiply 36 = .ok (.iload 4, 2) := dqr1 dqK_21 dqw_cX1_multiply_24 12 rfl rfl rfl
theorem dX1_multiply_38 : decode cX1_multiply 38 = .ok (.invokevirtual 69, 3) := dqr2 dqK_182 dqw_cX1_multiply_24 14 rfl rfl rfl rfl rfl
theorem dX1_multiply_41 : decode cX1_multiply 41 = .ok (.istore 6, 2) := dqr1 dqK_54 dqw_cX1_multiply_24 17 rfl rfl rfl
theorem dX1_multiply_43 : decode cX1_multiply 43 = .ok (.aload_n 0, 1) := dqr0 dqK_42 dqw_cX1_multiply_24 19 rfl rfl
theorem dX1_multiply_44 : decode cX1_multiply 44 = .ok (.getfield 11, 3) := dqr2 dqK_180 dqw_cX1_multiply_24 20 rfl rfl rfl rfl rfl
theorem dqw_cX1_multiply_47 : dqLF cX1_multiply 47 [21, 5, 46, 54, 7, 42, 180, 0, 11, 21, 5, 3, 79, 21, 7, 154, 0, 7, 3, 167, 0, 12, 42] := by decide +kernel
theorem dX1_multiply_47 : decode cX1_multiply 47 = .ok (.iload 5, 2) := dqr1 dqK_21 dqw_cX1_multiply_47 0 rfl rfl rfl
theorem dX1_multiply_49 : decode cX1_multiply 49 = .ok (.iaload, 1) := dqr0 dqK_46 dqw_cX1_multiply_47 2 rfl rfl
theorem dX1_multiply_50 : decode cX1_multiply 50 = .ok (.istore 7, 2) := dqr1 dqK_54 dqw_cX1_multiply_47 3 rfl rfl rfl
theorem dX1_multiply_52 : decode cX1_multiply 52 = .ok (.aload_n 0, 1) := dqr0 dqK_42 dqw_cX1_multiply_47 5 rfl rfl
theorem dX1_multiply_53 : decode cX1_multiply 53 = .ok (.getfield 11, 3) := dqr2 dqK_180 dqw_cX1_multiply_47 6 rfl rfl rfl rfl rfl
theorem dX1_multiply_56 : decode cX1_multiply 56 = .ok (.iload 5, 2) := dqr1 dqK_21 dqw_cX1_multiply_47 9 rfl rfl rfl
theorem dX1_multiply_58 : decode cX1_multiply 58 = .ok (.iconst 0, 1) := dqr0 dqK_3 dqw_cX1_multiply_47 11 rfl rfl
theorem dX1_multiply_59 : decode cX1_multiply 59 = .ok (.iastore, 1) := dqr0 dqK_79 dqw_cX1_multiply_47 12 rfl rfl
theorem dX1_multiply_60 : decode cX1_multiply 60 = .ok (.iload 7, 2) := dqr1 dqK_21 dqw_cX1_multiply_47 13 rfl rfl rfl
theorem dX1_multiply_62 : decode cX1_multiply 62 = .ok (.ifCond .ne 7, 3) := dqrs2 dqK_154 dqw_cX1_multiply_47 15 rfl rfl rfl rfl (by decide)
theorem dX1_multiply_65 : decode cX1_multiply 65 = .ok (.iconst 0, 1) := dqr0 dqK_3 dqw_cX1_multiply_47 18 rfl rfl
theorem dX1_multiply_66 : decode cX1_multiply 66 = .ok (.goto 12, 3) := dqrs2 dqK_167 dqw_cX1_multiply_47 19 rfl rfl rfl rfl (by decide)
theorem dX1_multiply_69 : decode cX1_multiply 69 = .ok (.aload_n 0, 1) := dqr0 dqK_42 dqw_cX1_multiply_47 22 rfl rfl
theorem dqw_cX1_multiply_70 : dqLF cX1_multiply 70 [180, 0, 22, 21, 4, 100, 4, 96, 54, 8, 3, 54, 9, 21, 9, 21, 8, 162, 0, 57, 42, 180, 0, 11] := by decide +kernel
theorem dX1_multiply_70 : decode cX1_multiply 70 = .ok (.getfield 22, 3) := dqr2 dqK_180 dqw_cX1_multiply_70 0 rfl rfl rfl rfl rfl
theorem dX1_multiply_73 : decode cX1_multiply 73 = .ok (.iload 4, 2) := dqr1 dqK_21 dqw_cX1_multiply_70 3 rfl rfl rfl
theorem dX1_multiply_75 : decode cX1_multiply 75 = .ok (.isub, 1) := dqr0 dqK_100 dqw_cX1_multiply_70 5 rfl rfl
theorem dX1_multiply_76 : decode cX1_multiply 76 = .ok (.iconst 1, 1) := dqr0 dqK_4 dqw_cX1_multiply_70 6 rfl rfl
theorem dX1_multiply_77 : decode cX1_multiply 77 = .ok (.iadd, 1) := dqr0 dqK_96 dqw_cX1_multiply_70 7 rfl rfl
theorem dX1_multiply_78 : decode cX1_multiply 78 = .ok (.istore 8, 2) := dqr1 dqK_54 dqw_cX1_multiply_70 8 rfl rfl rfl
theorem dX1_multiply_80 : decode cX1_multiply 80 = .ok (.iconst 0, 1) := dqr0 dqK_3 dqw_cX1_multiply_70 10 rfl rfl
theorem dX1_multiply_81 : decode cX1_multiply 81 = .ok (.istore 9, 2) := dqr1 dqK_54 dqw_cX1_multiply_70 11 rfl rfl rfl
theorem dX1_multiply_83 : decode cX1_multiply 83 = .ok (.iload 9, 2) := dqr1 dqK_21 dqw_cX1_multiply_70 13 rfl rfl rfl
theorem dX1_multiply_85 : decode cX1_multiply 85 = .ok (.iload 8, 2) := dqr1 dqK_21 dqw_cX1_multiply_70 15 rfl rfl rfl
theorem dX1_multiply_87 : decode cX1_multiply 87 = .ok (.if_icmp .ge 57, 3) := dqrs2 dqK_162 dqw_cX1_multiply_70 17 rfl rfl rfl rfl (by decide)
theorem dX1_multiply_90 : decode cX1_multiply 90 = .ok (.aload_n 0, 1) := dqr0 dqK_42 dqw_cX1_multiply_70 20 rfl rfl
theorem dX1_multiply_91 : decode cX1_multiply 91 = .ok (.getfield 11, 3) := dqr2 dqK_180 dqw_cX1_multiply_70 21 rfl rfl rfl rfl rfl
theorem dqw_cX1_multiply_94 : dqLF cX1_multiply 94 [21, 5, 21, 9, 96, 46, 133, 21, 7, 133, 42, 180, 0, 11, 21, 6, 21, 9, 96, 46, 133, 105, 97] := by decide +kernel
theorem dX1_multiply_94 : decode cX1_multiply 94 = .ok (.iload 5, 2) := dqr1 dqK_21 dqw_cX1_multiply_94 0 rfl rfl rfl
theorem dX1_multiply_96 : decode cX1_multiply 96 = .ok (.iload 9, 2) := dqr1 dqK_21 dqw_cX1_multiply_94 2 rfl rfl rfl
theorem dX1_multiply_98 : decode cX1_multiply 98 = .ok (.iadd, 1) := dqr0 dqK_96 dqw_cX1_multiply_94 4 rfl rfl
theorem dX1_multiply_99 : decode cX1_multiply 99 = .ok (.iaload, 1) := dqr0 dqK_46 dqw_cX1_multiply_94 5 rfl rfl
theorem dX1_multiply_100 : decode cX1_multiply 100 = .ok (.i2l, 1) := dqr0 dqK_133 dqw_cX1_multiply_94 6 rfl rfl
theorem dX1_multiply_101 : decode cX1_multiply 101 = .ok (.iload 7, 2) := dqr1 dqK_21 dqw_cX1_multiply_94 7 rfl rfl rfl
theorem dX1_multiply_103 : decode cX1_multiply 103 = .ok (.i2l, 1) := dqr0 dqK_133 dqw_cX1_multiply_94 9 rfl rfl
theorem dX1_multiply_104 : decode cX1_multiply 104 = .ok (.aload_n 0, 1) := dqr0 dqK_42 dqw_cX1_multiply_94 10 rfl rfl
theorem dX1_multiply_105 : decode cX1_multiply 105 = .ok (.getfield 11, 3) := dqr2 dqK_180 dqw_cX1_multiply_94 11 rfl rfl rfl rfl rfl
theorem dX1_multiply_108 : decode cX1_multiply 108 = .ok (.iload 6, 2) := dqr1 dqK_21 dqw_cX1_multiply_94 14 rfl rfl rfl
theorem dX1_multiply_110 : decode cX1_multiply 110 = .ok (.iload 9, 2) := dqr1 dqK_21 dqw_cX1_multiply_94 16 rfl rfl rfl
theorem dX1_multiply_112 : decode cX1_multiply 112 = .ok (.iadd, 1) := dqr0 dqK_96 dqw_cX1_multiply_94 18 rfl rfl
theorem dX1_multiply_113 : decode cX1_multiply 113 = .ok (.iaload, 1) := dqr0 dqK_46 dqw_cX1_multiply_94 19 rfl rfl
theorem dX1_multiply_114 : decode cX1_multiply 114 = .ok (.i2l, 1) := dqr0 dqK_133 dqw_cX1_multiply_94 20 rfl rfl
theorem dX1_multiply_115 : decode cX1_multiply 115 = .ok (.lmul, 1) := dqr0 dqK_105 dqw_cX1_multiply_94 21 rfl rfl
theorem dX1_multiply_116 : decode cX1_multiply 116 = .ok (.ladd, 1) := dqr0 dqK_97 dqw_cX1_multiply_94 22 rfl rfl
theorem dqw_cX1_multiply_117 : dqLF cX1_multiply 117 [55, 10, 42, 180, 0, 11, 21, 5, 21, 9, 96, 22, 10, 20, 0, 140, 184, 0, 142, 136, 79, 132, 9, 1] := by decide +kernel
theorem dX1_multiply_117 : decode cX1_multiply 117 = .ok (.lstore 10, 2) := dqr1 dqK_55 dqw_cX1_multiply_117 0 rfl rfl rfl
theorem dX1_multiply_119 : decode cX1_multiply 119 = .ok (.aload_n 0, 1) := dqr0 dqK_42 dqw_cX1_multiply_117 2 rfl rfl
theorem dX1_multiply_120 : decode cX1_multiply 120 = .ok (.getfield 11, 3) := dqr2 dqK_180 dqw_cX1_multiply_117 3 rfl rfl rfl rfl rfl
theorem dX1_multiply_123 : decode cX1_multiply 123 = .ok (.iload 5, 2) := dqr1 dqK_21 dqw_cX1_multiply_117 6 rfl rfl rfl
theorem dX1_multiply_125 : decode cX1_multiply 125 = .ok (.iload 9, 2) := dqr1 dqK_21 dqw_cX1_multiply_117 8 rfl rfl rfl
theorem dX1_multiply_127 : decode cX1_multiply 127 = .ok (.iadd, 1) := dqr0 dqK_96 dqw_cX1_multiply_117 10 rfl rfl
theorem dX1_multiply_128 : decode cX1_multiply 128 = .ok (.lload 10, 2) := dqr1 dqK_22 dqw_cX1_multiply_117 11 rfl rfl rfl
theorem dX1_multiply_130 : decode cX1_multiply 130 = .ok (.ldc2_w 140, 3) := dqr2 dqK_20 dqw_cX1_multiply_117 13 rfl rfl rfl rfl rfl
theorem dX1_multiply_133 : decode cX1_multiply 133 = .ok (.invokestatic 142, 3) := dqr2 dqK_184 dqw_cX1_multiply_117 16 rfl rfl rfl rfl rfl
theorem dX1_multiply_136 : decode cX1_multiply 136 = .ok (.l2i, 1) := dqr0 dqK_136 dqw_cX1_multiply_117 19 rfl rfl
theorem dX1_multiply_137 : decode cX1_multiply 137 = .ok (.iastore, 1) := dqr0 dqK_79 dqw_cX1_multiply_117 20 rfl rfl
theorem dX1_multiply_138 : decode cX1_multiply 138 = .ok (.iinc 9 1, 3) := dqri dqK_132 dqw_cX1_multiply_117 21 rfl rfl rfl rfl (by decide)
theorem dqw_cX1_multiply_141 : dqLF cX1_multiply 141 [167, 255, 198, 132, 4, 255, 167, 255, 125, 132, 3, 1, 167, 255, 105, 177] := by decide +kernel
theorem dX1_multiply_141 : decode cX1_multiply 141 = .ok (.goto (-58), 3) := dqrs2 dqK_167 dqw_cX1_multiply_141 0 rfl rfl rfl rfl (by decide)
theorem dX1_multiply_144 : decode cX1_multiply 144 = .ok (.iinc 4 (-1), 3) := dqri dqK_132 dqw_cX1_multiply_141 3 rfl rfl rfl rfl (by decide)
theorem dX1_multiply_147 : decode cX1_multiply 147 = .ok (.goto (-131), 3) := dqrs2 dqK_167 dqw_cX1_multiply_141 6 rfl rfl rfl rfl (by decide)
theorem dX1_multiply_150 : decode cX1_multiply 150 = .ok (.iinc 3 1, 3) := dqri dqK_132 dqw_cX1_multiply_141 9 rfl rfl rfl rfl (by decide)
theorem dX1_multiply_153 : decode cX1_multiply 153 = .ok (.goto (-151), 3) := dqrs2 dqK_167 dqw_cX1_multiply_141 12 rfl rfl rfl rfl (by decide)
theorem dX1_multiply_156 : decode cX1_multiply 156 = .ok (.return_, 1) := dqr0 dqK_177 dqw_cX1_multiply_141 15 rfl rfl
theorem dqw_cX2_init_0 : dqLF cX2_init 0 [42, 183, 0, 3, 42, 16, 60] := by decide +kernel
theorem dX2_init_0 : decode cX2_init 0 = .ok (.aload_n 0, 1) := dqr0 dqK_42 dqw_cX2_init_0 0 rfl rfl
theorem dX2_init_1 : decode cX2_init 1 = .ok (.invokespecial 3, 3) := dqr2 dqK_183 dqw_cX2_init_0 1 rfl rfl rfl rfl rfl
theorem dX2_init_4 : decode cX2_init 4 = .ok (.aload_n 0, 1) := dqr0 dqK_42 dqw_cX2_init_0 4 rfl rfl
theorem dX2_init_5 : decode cX2_init 5 = .ok (.bipush 60, 2) := dqrs1 dqK_16 dqw_cX2_init_0 5 rfl rfl rfl (by decide)
theorem dX2_init_7 : decode cX2_init 7 = .ok (.newarray .int, 2) := by decide +kernel
theorem dqw_cX2_init_9 : dqLF cX2_init 9 [181, 0, 9, 42, 3, 181, 0, 15, 42, 16, 60] := by decide +kernel
theorem dX2_init_9 : decode cX2_init 9 = .ok (.putfield 9, 3) := dqr2 dqK_181 dqw_cX2_init_9 0 rfl rfl rfl rfl rfl
theorem dX2_init_12 : decode cX2_init 12 = .ok (.aload_n 0, 1) := dqr0 dqK_42 dqw_cX2_init_9 3 rfl rfl
theorem dX2_init_13 : decode cX2_init 13 = .ok (.iconst 0, 1) := dqr0 dqK_3 dqw_cX2_init_9 4 rfl rfl
theorem dX2_init_14 : decode cX2_init 14 = .ok (.putfield 15, 3) := dqr2 dqK_181 dqw_cX2_init_9 5 rfl rfl rfl rfl rfl
theorem dX2_init_17 : decode cX2_init 17 = .ok (.aload_n 0, 1) := dqr0 dqK_42 dqw_cX2_init_9 8 rfl rfl
theorem dX2_init_18 : decode cX2_init 18 = .ok (.bipush 60, 2) := dqrs1 dqK_16 dqw_cX2_init_9 9 rfl rfl rfl (by decide)
theorem dX2_init_20 : decode cX2_init 20 = .ok (.newarray .int, 2) := by decide +kernel
theorem dqw_cX2_init_22 : dqLF cX2_init 22 [181, 0, 19, 42, 16, 60] := by decide +kernel
theorem dX2_init_22 : decode cX2_init 22 = .ok (.putfield 19, 3) := dqr2 dqK_181 dqw_cX2_init_22 0 rfl rfl rfl rfl rfl
theorem dX2_init_25 : decode cX2_init 25 = .ok (.aload_n 0, 1) := dqr0 dqK_42 dqw_cX2_init_22 3 rfl rfl
theorem dX2_init_26 : decode cX2_init 26 = .ok (.bipush 60, 2) := dqrs1 dqK_16 dqw_cX2_init_22 4 rfl rfl rfl (by decide)
theorem dX2_init_28 : decode cX2_init 28 = .ok (.newarray .int, 2) := by decide +kernel
theorem dqw_cX2_init_30 : dqLF cX2_init 30 [181, 0, 22, 42, 3, 181, 0, 25, 42, 3, 181, 0, 28, 42, 17, 1, 224] := by decide +kernel
theorem dX2_init_30 : decode cX2_init 30 = .ok (.putfield 22, 3) := dqr2 dqK_181 dqw_cX2_init_30 0 rfl rfl rfl rfl rfl
theorem dX2_init_33 : decode cX2_init 33 = .ok (.aload_n 0, 1) := dqr0 dqK_42 dqw_cX2_init_30 3 rfl rfl
theorem dX2_init_34 : decode cX2_init 34 = .ok (.iconst 0, 1) := dqr0 dqK_3 dqw_cX2_init_30 4 rfl rfl
theorem dX2_init_35 : decode cX2_init 35 = .ok (.putfield 25, 3) := dqr2 dqK_181 dqw_cX2_init_30 5 rfl rfl rfl rfl rfl
theorem dX2_init_38 : decode cX2_init 38 = .ok (.aload_n 0, 1) := dqr0 dqK_42 dqw_cX2_init_30 8 rfl rfl
theorem dX2_init_39 : decode cX2_init 39 = .ok (.iconst 0, 1) := dqr0 dqK_3 dqw_cX2_init_30 9 rfl rfl
theorem dX2_init_40 : decode cX2_init 40 = .ok (.putfield 28, 3) := dqr2 dqK_181 dqw_cX2_init_30 10 rfl rfl rfl rfl rfl
theorem dX2_init_43 : decode cX2_init 43 = .ok (.aload_n 0, 1) := dqr0 dqK_42 dqw_cX2_init_30 13 rfl rfl
theorem dX2_init_44 : decode cX2_init 44 = .ok (.sipush 480, 3) := dqrs2 dqK_17 dqw_cX2_init_30 14 rfl rfl rfl rfl (by decide)
theorem dX2_init_47 : decode cX2_init 47 = .ok (.newarray .int, 2) := by decide +kernel
theorem dqw_cX2_init_49 : dqLF cX2_init 49 [181, 0, 32, 42, 17, 1, 224] := by decide +kernel
theorem dX2_init_49 : decode cX2_init 49 = .ok (.putfield 32, 3) := dqr2 dqK_181 dqw_cX2_init_49 0 rfl rfl rfl rfl rfl
theorem dX2_init_52 : decode cX2_init 52 = .ok (.aload_n 0, 1) := dqr0 dqK_42 dqw_cX2_init_49 3 rfl rfl
theorem dX2_init_53 : decode cX2_init 53 = .ok (.sipush 480, 3) := dqrs2 dqK_17 dqw_cX2_init_49 4 rfl rfl rfl rfl (by decide)
theorem dX2_init_56 : decode cX2_init 56 = .ok (.newarray .int, 2) := by decide +kernel
theorem dqw_cX2_init_58 : dqLF cX2_init 58 [181, 0, 35, 42, 16, 8] := by decide +kernel
theorem dX2_init_58 : decode cX2_init 58 = .ok (.putfield 35, 3) := dqr2 dqK_181 dqw_cX2_init_58 0 rfl rfl rfl rfl rfl
theorem dX2_init_61 : decode cX2_init 61 = .ok (.aload_n 0, 1) := dqr0 dqK_42 dqw_cX2_init_58 3 rfl rfl
theorem dX2_init_62 : decode cX2_init 62 = .ok (.bipush 8, 2) := dqrs1 dqK_16 dqw_cX2_init_58 4 rfl rfl rfl (by decide)
theorem dX2_init_64 : decode cX2_init 64 = .ok (.newarray .int, 2) := by decide +kernel
theorem dqw_cX2_init_66 : dqLF cX2_init 66 [181, 0, 38, 42, 16, 8] := by decide +kernel
theorem dX2_init_66 : decode cX2_init 66 = .ok (.putfield 38, 3) := dqr2 dqK_181 dqw_cX2_init_66 0 rfl rfl rfl rfl rfl
theorem dX2_init_69 : decode cX2_init 69 = .ok (.aload_n 0, 1) := dqr0 dqK_42 dqw_cX2_init_66 3 rfl rfl
theorem dX2_init_70 : decode cX2_init 70 = .ok (.bipush 8, 2) := dqrs1 dqK_16 dqw_cX2_init_66 4 rfl rfl rfl (by decide)
theorem dX2_init_72 : decode cX2_init 72 = .ok (.newarray .int, 2) := by decide +kernel
theorem dqw_cX2_init_74 : dqLF cX2_init 74 [181, 0, 41, 42, 16, 8] := by decide +kernel
theorem dX2_init_74 : decode cX2_init 74 = .ok (.putfield 41, 3) := dqr2 dqK_181 dqw_cX2_init_74 0 rfl rfl rfl rfl rfl
theorem dX2_init_77 : decode cX2_init 77 = .ok (.aload_n 0, 1) := dqr0 dqK_42 dqw_cX2_init_74 3 rfl rfl
theorem dX2_init_78 : decode cX2_init 78 = .ok (.bipush 8, 2) := dqrs1 dqK_16 dqw_cX2_init_74 4 rfl rfl rfl (by decide)
theorem dX2_init_80 : decode cX2_init 80 = .ok (.newarray .int, 2) := by decide +kernel
theorem dqw_cX2_init_82 : dqLF cX2_init 82 [181, 0, 44, 42, 3, 181, 0, 47, 42, 4, 181, 0, 50, 177] := by decide +kernel
theorem dX2_init_82 : decode cX2_init 82 = .ok (.putfield 44, 3) := dqr2 dqK_181 dqw_cX2_init_82 0 rfl rfl rfl rfl rfl
theorem dX2_init_85 : decode cX2_init 85 = .ok (.aload_n 0, 1) := dqr0 dqK_42 dqw_cX2_init_82 3 rfl rfl
theorem dX2_init_86 : decode cX2_init 86 = .ok (.iconst 0, 1) := dqr0 dqK_3 dqw_cX2_init_82 4 rfl rfl
theorem dX2_init_87 : decode cX2_init 87 = .ok (.putfield 47, 3) := dqr2 dqK_181 dqw_cX2_init_82 5 rfl rfl rfl rfl rfl
theorem dX2_init_90 : decode cX2_init 90 = .ok (.aload_n 0, 1) := dqr0 dqK_42 dqw_cX2_init_82 8 rfl rfl
theorem dX2_init_91 : decode cX2_init 91 = .ok (.iconst 1, 1) := dqr0 dqK_4 dqw_cX2_init_82 9 rfl rfl
theorem dX2_init_92 : decode cX2_init 92 = .ok (.putfield 50, 3) := dqr2 dqK_181 dqw_cX2_init_82 10 rfl rfl rfl rfl rfl
theorem dX2_init_95 : decode cX2_init 95 = .ok (.return_, 1) := dqr0 dqK_177 dqw_cX2_init_82 13 rfl rfl
theorem dqw_cX2_isTold_0 : dqLF cX2_isTold 0 [27, 155, 0, 22, 27, 16, 8, 162, 0, 16, 42, 180, 0, 38, 27, 46, 158, 0, 7, 4, 167, 0, 4, 3] := by decide +kernel
theorem dX2_isTold_0 : decode cX2_isTold 0 = .ok (.iload_n 1, 1) := dqr0 dqK_27 dqw_cX2_isTold_0 0 rfl rfl
theorem dX2_isTold_1 : decode cX2_isTold 1 = .ok (.ifCond .lt 22, 3) := dqrs2 dqK_155 dqw_cX2_isTold_0 1 rfl rfl rfl rfl (by decide)
theorem dX2_isTold_4 : decode cX2_isTold 4 = .ok (.iload_n 1, 1) := dqr0 dqK_27 dqw_cX2_isTold_0 4 rfl rfl
theorem dX2_isTold_5 : decode cX2_isTold 5 = .ok (.bipush 8, 2) := dqrs1 dqK_16 dqw_cX2_isTold_0 5 rfl rfl rfl (by decide)
theorem dX2_isTold_7 : decode cX2_isTold 7 = .ok (.if_icmp .ge 16, 3) := dqrs2 dqK_162 dqw_cX2_isTold_0 7 rfl rfl rfl rfl (by decide)
theorem dX2_isTold_10 : decode cX2_isTold 10 = .ok (.aload_n 0, 1) := dqr0 dqK_42 dqw_cX2_isTold_0 10 rfl rfl
theorem dX2_isTold_11 : decode cX2_isTold 11 = .ok (.getfield 38, 3) := dqr2 dqK_180 dqw_cX2_isTold_0 11 rfl rfl rfl rfl rfl
theorem dX2_isTold_14 : decode cX2_isTold 14 = .ok (.iload_n 1, 1) := dqr0 dqK_27 dqw_cX2_isTold_0 14 rfl rfl
theorem dX2_isTold_15 : decode cX2_isTold 15 = .ok (.iaload, 1) := dqr0 dqK_46 dqw_cX2_isTold_0 15 rfl rfl
theorem dX2_isTold_16 : decode cX2_isTold 16 = .ok (.ifCond .le 7, 3) := dqrs2 dqK_158 dqw_cX2_isTold_0 16 rfl rfl rfl rfl (by decide)
theorem dX2_isTold_19 : decode cX2_isTold 19 = .ok (.iconst 1, 1) := dqr0 dqK_4 dqw_cX2_isTold_0 19 rfl rfl
theorem dX2_isTold_20 : decode cX2_isTold 20 = .ok (.goto 4, 3) := dqrs2 dqK_167 dqw_cX2_isTold_0 20 rfl rfl rfl rfl (by decide)
theorem dX2_isTold_23 : decode cX2_isTold 23 = .ok (.iconst 0, 1) := dqr0 dqK_3 dqw_cX2_isTold_0 23 rfl rfl
theorem dqw_cX2_isTold_24 : dqLF cX2_isTold 24 [172] := by decide +kernel
theorem dX2_isTold_24 : decode cX2_isTold 24 = .ok (.ireturn, 1) := dqr0 dqK_172 dqw_cX2_isTold_24 0 rfl rfl
theorem dqw_cX2_sign_0 : dqLF cX2_sign 0 [42, 180, 0, 32, 27, 16, 60, 104, 28, 96, 46, 172] := by decide +kernel
theorem dX2_sign_0 : decode cX2_sign 0 = .ok (.aload_n 0, 1) := dqr0 dqK_42 dqw_cX2_sign_0 0 rfl rfl
theorem dX2_sign_1 : decode cX2_sign 1 = .ok (.getfield 32, 3) := dqr2 dqK_180 dqw_cX2_sign_0 1 rfl rfl rfl rfl rfl
theorem dX2_sign_4 : decode cX2_sign 4 = .ok (.iload_n 1, 1) := dqr0 dqK_27 dqw_cX2_sign_0 4 rfl rfl
theorem dX2_sign_5 : decode cX2_sign 5 = .ok (.bipush 60, 2) := dqrs1 dqK_16 dqw_cX2_sign_0 5 rfl rfl rfl (by decide)
theorem dX2_sign_7 : decode cX2_sign 7 = .ok (.imul, 1) := dqr0 dqK_104 dqw_cX2_sign_0 7 rfl rfl
theorem dX2_sign_8 : decode cX2_sign 8 = .ok (.iload_n 2, 1) := dqr0 dqK_28 dqw_cX2_sign_0 8 rfl rfl
theorem dX2_sign_9 : decode cX2_sign 9 = .ok (.iadd, 1) := dqr0 dqK_96 dqw_cX2_sign_0 9 rfl rfl
theorem dX2_sign_10 : decode cX2_sign 10 = .ok (.iaload, 1) := dqr0 dqK_46 dqw_cX2_sign_0 10 rfl rfl
theorem dX2_sign_11 : decode cX2_sign 11 = .ok (.ireturn, 1) := dqr0 dqK_172 dqw_cX2_sign_0 11 rfl rfl
theorem dqw_cX2_mateOf_0 : dqLF cX2_mateOf 0 [42, 180, 0, 35, 27, 16, 60, 104, 28, 96, 46, 172] := by decide +kernel
theorem dX2_mateOf_0 : decode cX2_mateOf 0 = .ok (.aload_n 0, 1) := dqr0 dqK_42 dqw_cX2_mateOf_0 0 rfl rfl
theorem dX2_mateOf_1 : decode cX2_mateOf 1 = .ok (.getfield 35, 3) := dqr2 dqK_180 dqw_cX2_mateOf_0 1 rfl rfl rfl rfl rfl
theorem dX2_mateOf_4 : decode cX2_mateOf 4 = .ok (.iload_n 1, 1) := dqr0 dqK_27 dqw_cX2_mateOf_0 4 rfl rfl
theorem dX2_mateOf_5 : decode cX2_mateOf 5 = .ok (.bipush 60, 2) := dqrs1 dqK_16 dqw_cX2_mateOf_0 5 rfl rfl rfl (by decide)
theorem dX2_mateOf_7 : decode cX2_mateOf 7 = .ok (.imul, 1) := dqr0 dqK_104 dqw_cX2_mateOf_0 7 rfl rfl
theorem dX2_mateOf_8 : decode cX2_mateOf 8 = .ok (.iload_n 2, 1) := dqr0 dqK_28 dqw_cX2_mateOf_0 8 rfl rfl
theorem dX2_mateOf_9 : decode cX2_mateOf 9 = .ok (.iadd, 1) := dqr0 dqK_96 dqw_cX2_mateOf_0 9 rfl rfl
theorem dX2_mateOf_10 : decode cX2_mateOf 10 = .ok (.iaload, 1) := dqr0 dqK_46 dqw_cX2_mateOf_0 10 rfl rfl
theorem dX2_mateOf_11 : decode cX2_mateOf 11 = .ok (.ireturn, 1) := dqr0 dqK_172 dqw_cX2_mateOf_0 11 rfl rfl
theorem dqw_cX2_append_0 : dqLF cX2_append 0 [29, 4, 100, 54, 4, 21, 4, 155, 0, 40, 42, 180, 0, 9, 42, 180, 0, 15, 31, 16, 8, 21, 4, 104] := by decide +kernel
theorem dX2_append_0 : decode cX2_append 0 = .ok (.iload_n 3, 1) := dqr0 dqK_29 dqw_cX2_append_0 0 rfl rfl
theorem dX2_append_1 : decode cX2_append 1 = .ok (.iconst 1, 1) := dqr0 dqK_4 dqw_cX2_append_0 1 rfl rfl
theorem dX2_append_2 : decode cX2_append 2 = .ok (.isub, 1) := dqr0 dqK_100 dqw_cX2_append_0 2 rfl rfl
theorem dX2_append_3 : decode cX2_append 3 = .ok (.istore 4, 2) := dqr1 dqK_54 dqw_cX2_append_0 3 rfl rfl rfl
theorem dX2_append_5 : decode cX2_append 5 = .ok (.iload 4, 2) := dqr1 dqK_21 dqw_cX2_append_0 5 rfl rfl rfl
theorem dX2_append_7 : decode cX2_append 7 = .ok (.ifCond .lt 40, 3) := dqrs2 dqK_155 dqw_cX2_append_0 7 rfl rfl rfl rfl (by decide)
theorem dX2_append_10 : decode cX2_append 10 = .ok (.aload_n 0, 1) := dqr0 dqK_42 dqw_cX2_append_0 10 rfl rfl
theorem dX2_append_11 : decode cX2_append 11 = .ok (.getfield 9, 3) := dqr2 dqK_180 dqw_cX2_append_0 11 rfl rfl rfl rfl rfl
theorem dX2_append_14 : decode cX2_append 14 = .ok (.aload_n 0, 1) := dqr0 dqK_42 dqw_cX2_append_0 14 rfl rfl
theorem dX2_append_15 : decode cX2_append 15 = .ok (.getfield 15, 3) := dqr2 dqK_180 dqw_cX2_append_0 15 rfl rfl rfl rfl rfl
theorem dX2_append_18 : decode cX2_append 18 = .ok (.lload_n 1, 1) := dqr0 dqK_31 dqw_cX2_append_0 18 rfl rfl
theorem dX2_append_19 : decode cX2_append 19 = .ok (.bipush 8, 2) := dqrs1 dqK_16 dqw_cX2_append_0 19 rfl rfl rfl (by decide)
theorem dX2_append_21 : decode cX2_append 21 = .ok (.iload 4, 2) := dqr1 dqK_21 dqw_cX2_append_0 21 rfl rfl rfl
theorem dX2_append_23 : decode cX2_append 23 = .ok (.imul, 1) := dqr0 dqK_104 dqw_cX2_append_0 23 rfl rfl
theorem dqw_cX2_append_24 : dqLF cX2_append 24 [125, 20, 0, 53, 127, 136, 79, 42, 89, 180, 0, 15, 4, 96, 181, 0, 15, 132, 4, 255, 167, 255, 217, 42] := by decide +kernel
theorem dX2_append_24 : decode cX2_append 24 = .ok (.lushr, 1) := dqr0 dqK_125 dqw_cX2_append_24 0 rfl rfl
theorem dX2_append_25 : decode cX2_append 25 = .ok (.ldc2_w 53, 3) := dqr2 dqK_20 dqw_cX2_append_24 1 rfl rfl rfl rfl rfl
theorem dX2_append_28 : decode cX2_append 28 = .ok (.land, 1) := dqr0 dqK_127 dqw_cX2_append_24 4 rfl rfl
theorem dX2_append_29 : decode cX2_append 29 = .ok (.l2i, 1) := dqr0 dqK_136 dqw_cX2_append_24 5 rfl rfl
theorem dX2_append_30 : decode cX2_append 30 = .ok (.iastore, 1) := dqr0 dqK_79 dqw_cX2_append_24 6 rfl rfl
theorem dX2_append_31 : decode cX2_append 31 = .ok (.aload_n 0, 1) := dqr0 dqK_42 dqw_cX2_append_24 7 rfl rfl
theorem dX2_append_32 : decode cX2_append 32 = .ok (.dup, 1) := dqr0 dqK_89 dqw_cX2_append_24 8 rfl rfl
theorem dX2_append_33 : decode cX2_append 33 = .ok (.getfield 15, 3) := dqr2 dqK_180 dqw_cX2_append_24 9 rfl rfl rfl rfl rfl
theorem dX2_append_36 : decode cX2_append 36 = .ok (.iconst 1, 1) := dqr0 dqK_4 dqw_cX2_append_24 12 rfl rfl
theorem dX2_append_37 : decode cX2_append 37 = .ok (.iadd, 1) := dqr0 dqK_96 dqw_cX2_append_24 13 rfl rfl
theorem dX2_append_38 : decode cX2_append 38 = .ok (.putfield 15, 3) := dqr2 dqK_181 dqw_cX2_append_24 14 rfl rfl rfl rfl rfl
theorem dX2_append_41 : decode cX2_append 41 = .ok (.iinc 4 (-1), 3) := dqri dqK_132 dqw_cX2_append_24 17 rfl rfl rfl rfl (by decide)
theorem dX2_append_44 : decode cX2_append 44 = .ok (.goto (-39), 3) := dqrs2 dqK_167 dqw_cX2_append_24 20 rfl rfl rfl rfl (by decide)
theorem dX2_append_47 : decode cX2_append 47 = .ok (.aload_n 0, 1) := dqr0 dqK_42 dqw_cX2_append_24 23 rfl rfl
theorem dqw_cX2_append_48 : dqLF cX2_append 48 [180, 0, 15, 172] := by decide +kernel
theorem dX2_append_48 : decode cX2_append 48 = .ok (.getfield 15, 3) := dqr2 dqK_180 dqw_cX2_append_48 0 rfl rfl rfl rfl rfl
theorem dX2_append_51 : decode cX2_append 51 = .ok (.ireturn, 1) := dqr0 dqK_172 dqw_cX2_append_48 3 rfl rfl
theorem dqw_cX2_tellTape_0 : dqLF cX2_tellTape 0 [42, 182, 0, 55, 60, 42, 3, 181, 0, 15, 27, 172] := by decide +kernel
theorem dX2_tellTape_0 : decode cX2_tellTape 0 = .ok (.aload_n 0, 1) := dqr0 dqK_42 dqw_cX2_tellTape_0 0 rfl rfl
theorem dX2_tellTape_1 : decode cX2_tellTape 1 = .ok (.invokevirtual 55, 3) := dqr2 dqK_182 dqw_cX2_tellTape_0 1 rfl rfl rfl rfl rfl
theorem dX2_tellTape_4 : decode cX2_tellTape 4 = .ok (.istore_n 1, 1) := dqr0 dqK_60 dqw_cX2_tellTape_0 4 rfl rfl
theorem dX2_tellTape_5 : decode cX2_tellTape 5 = .ok (.aload_n 0, 1) := dqr0 dqK_42 dqw_cX2_tellTape_0 5 rfl rfl
theorem dX2_tellTape_6 : decode cX2_tellTape 6 = .ok (.iconst 0, 1) := dqr0 dqK_3 dqw_cX2_tellTape_0 6 rfl rfl
theorem dX2_tellTape_7 : decode cX2_tellTape 7 = .ok (.putfield 15, 3) := dqr2 dqK_181 dqw_cX2_tellTape_0 7 rfl rfl rfl rfl rfl
theorem dX2_tellTape_10 : decode cX2_tellTape 10 = .ok (.iload_n 1, 1) := dqr0 dqK_27 dqw_cX2_tellTape_0 10 rfl rfl
theorem dX2_tellTape_11 : decode cX2_tellTape 11 = .ok (.ireturn, 1) := dqr0 dqK_172 dqw_cX2_tellTape_0 11 rfl rfl
theorem dqw_cX2_readTape_0 : dqLF cX2_readTape 0 [42, 182, 0, 59, 60, 27, 155, 0, 9, 17, 252, 24, 27, 100, 172, 42, 180, 0, 9, 3, 46, 16, 65, 100] := by decide +kernel
theorem dX2_readTape_0 : decode cX2_readTape 0 = .ok (.aload_n 0, 1) := dqr0 dqK_42 dqw_cX2_readTape_0 0 rfl rfl
theorem dX2_readTape_1 : decode cX2_readTape 1 = .ok (.invokevirtual 59, 3) := dqr2 dqK_182 dqw_cX2_readTape_0 1 rfl rfl rfl rfl rfl
theorem dX2_readTape_4 : decode cX2_readTape 4 = .ok (.istore_n 1, 1) := dqr0 dqK_60 dqw_cX2_readTape_0 4 rfl rfl
theorem dX2_readTape_5 : decode cX2_readTape 5 = .ok (.iload_n 1, 1) := dqr0 dqK_27 dqw_cX2_readTape_0 5 rfl rfl
theorem dX2_readTape_6 : decode cX2_readTape 6 = .ok (.ifCond .lt 9, 3) := dqrs2 dqK_155 dqw_cX2_readTape_0 6 rfl rfl rfl rfl (by decide)
theorem dX2_readTape_9 : decode cX2_readTape 9 = .ok (.sipush (-1000), 3) := dqrs2 dqK_17 dqw_cX2_readTape_0 9 rfl rfl rfl rfl (by decide)
theorem dX2_readTape_12 : decode cX2_readTape 12 = .ok (.iload_n 1, 1) := dqr0 dqK_27 dqw_cX2_readTape_0 12 rfl rfl
theorem dX2_readTape_13 : decode cX2_readTape 13 = .ok (.isub, 1) := dqr0 dqK_100 dqw_cX2_readTape_0 13 rfl rfl
theorem dX2_readTape_14 : decode cX2_readTape 14 = .ok (.ireturn, 1) := dqr0 dqK_172 dqw_cX2_readTape_0 14 rfl rfl
theorem dX2_readTape_15 : decode cX2_readTape 15 = .ok (.aload_n 0, 1) := dqr0 dqK_42 dqw_cX2_readTape_0 15 rfl rfl
theorem dX2_readTape_16 : decode cX2_readTape 16 = .ok (.getfield 9, 3) := dqr2 dqK_180 dqw_cX2_readTape_0 16 rfl rfl rfl rfl rfl
theorem dX2_readTape_19 : decode cX2_readTape 19 = .ok (.iconst 0, 1) := dqr0 dqK_3 dqw_cX2_readTape_0 19 rfl rfl
theorem dX2_readTape_20 : decode cX2_readTape 20 = .ok (.iaload, 1) := dqr0 dqK_46 dqw_cX2_readTape_0 20 rfl rfl
theorem dX2_readTape_21 : decode cX2_readTape 21 = .ok (.bipush 65, 2) := dqrs1 dqK_16 dqw_cX2_readTape_0 21 rfl rfl rfl (by decide)
theorem dX2_readTape_23 : decode cX2_readTape 23 = .ok (.isub, 1) := dqr0 dqK_100 dqw_cX2_readTape_0 23 rfl rfl
theorem dqw_cX2_readTape_24 : dqLF cX2_readTape 24 [61, 42, 28, 182, 0, 62, 60, 27, 155, 0, 9, 17, 248, 48, 27, 100, 172, 42, 28, 182, 0, 66] := by decide +kernel
theorem dX2_readTape_24 : decode cX2_readTape 24 = .ok (.istore_n 2, 1) := dqr0 dqK_61 dqw_cX2_readTape_24 0 rfl rfl
theorem dX2_readTape_25 : decode cX2_readTape 25 = .ok (.aload_n 0, 1) := dqr0 dqK_42 dqw_cX2_readTape_24 1 rfl rfl
theorem dX2_readTape_26 : decode cX2_readTape 26 = .ok (.iload_n 2, 1) := dqr0 dqK_28 dqw_cX2_readTape_24 2 rfl rfl
theorem dX2_readTape_27 : decode cX2_readTape 27 = .ok (.invokevirtual 62, 3) := dqr2 dqK_182 dqw_cX2_readTape_24 3 rfl rfl rfl rfl rfl
theorem dX2_readTape_30 : decode cX2_readTape 30 = .ok (.istore_n 1, 1) := dqr0 dqK_60 dqw_cX2_readTape_24 6 rfl rfl
theorem dX2_readTape_31 : decode cX2_readTape 31 = .ok (.iload_n 1, 1) := dqr0 dqK_27 dqw_cX2_readTape_24 7 rfl rfl
theorem dX2_readTape_32 : decode cX2_readTape 32 = .ok (.ifCond .lt 9, 3) := dqrs2 dqK_155 dqw_cX2_readTape_24 8 rfl rfl rfl rfl (by decide)
theorem dX2_readTape_35 : decode cX2_readTape 35 = .ok (.sipush (-2000), 3) := dqrs2 dqK_17 dqw_cX2_readTape_24 11 rfl rfl rfl rfl (by decide)
theorem dX2_readTape_38 : decode cX2_readTape 38 = .ok (.iload_n 1, 1) := dqr0 dqK_27 dqw_cX2_readTape_24 14 rfl rfl
theorem dX2_readTape_39 : decode cX2_readTape 39 = .ok (.isub, 1) := dqr0 dqK_100 dqw_cX2_readTape_24 15 rfl rfl
theorem dX2_readTape_40 : decode cX2_readTape 40 = .ok (.ireturn, 1) := dqr0 dqK_172 dqw_cX2_readTape_24 16 rfl rfl
theorem dX2_readTape_41 : decode cX2_readTape 41 = .ok (.aload_n 0, 1) := dqr0 dqK_42 dqw_cX2_readTape_24 17 rfl rfl
theorem dX2_readTape_42 : decode cX2_readTape 42 = .ok (.iload_n 2, 1) := dqr0 dqK_28 dqw_cX2_readTape_24 18 rfl rfl
theorem dX2_readTape_43 : decode cX2_readTape 43 = .ok (.invokevirtual 66, 3) := dqr2 dqK_182 dqw_cX2_readTape_24 19 rfl rfl rfl rfl rfl
theorem dqw_cX2_readTape_46 : dqLF cX2_readTape 46 [153, 0, 7, 17, 244, 72, 172, 42, 28, 182, 0, 70, 28, 172] := by decide +kernel
theorem dX2_readTape_46 : decode cX2_readTape 46 = .ok (.ifCond .eq 7, 3) := dqrs2 dqK_153 dqw_cX2_readTape_46 0 rfl rfl rfl rfl (by decide)
theorem dX2_readTape_49 : decode cX2_readTape 49 = .ok (.sipush (-3000), 3) := dqrs2 dqK_17 dqw_cX2_readTape_46 3 rfl rfl rfl rfl (by decide)
theorem dX2_readTape_52 : decode cX2_readTape 52 = .ok (.ireturn, 1) := dqr0 dqK_172 dqw_cX2_readTape_46 6 rfl rfl
theorem dX2_readTape_53 : decode cX2_readTape 53 = .ok (.aload_n 0, 1) := dqr0 dqK_42 dqw_cX2_readTape_46 7 rfl rfl
theorem dX2_readTape_54 : decode cX2_readTape 54 = .ok (.iload_n 2, 1) := dqr0 dqK_28 dqw_cX2_readTape_46 8 rfl rfl
theorem dX2_readTape_55 : decode cX2_readTape 55 = .ok (.invokevirtual 70, 3) := dqr2 dqK_182 dqw_cX2_readTape_46 9 rfl rfl rfl rfl rfl
theorem dX2_readTape_58 : decode cX2_readTape 58 = .ok (.iload_n 2, 1) := dqr0 dqK_28 dqw_cX2_readTape_46 12 rfl rfl
theorem dX2_readTape_59 : decode cX2_readTape 59 = .ok (.ireturn, 1) := dqr0 dqK_172 dqw_cX2_readTape_46 13 rfl rfl
theorem dqw_cX2_misfit_0 : dqLF cX2_misfit 0 [42, 3, 181, 0, 25, 42, 3, 181, 0, 28, 3, 60, 27, 42, 180, 0, 15, 162, 0, 19, 42, 27] := by decide +kernel
theorem dX2_misfit_0 : decode cX2_misfit 0 = .ok (.aload_n 0, 1) := dqr0 dqK_42 dqw_cX2_misfit_0 0 rfl rfl
theorem dX2_misfit_1 : decode cX2_misfit 1 = .ok (.iconst 0, 1) := dqr0 dqK_3 dqw_cX2_misfit_0 1 rfl rfl
theorem dX2_misfit_2 : decode cX2_misfit 2 = .ok (.putfield 25, 3) := dqr2 dqK_181 dqw_cX2_misfit_0 2 rfl rfl rfl rfl rfl
theorem dX2_misfit_5 : decode cX2_misfit 5 = .ok (.aload_n 0, 1) := dqr0 dqK_42 dqw_cX2_misfit_0 5 rfl rfl
theorem dX2_misfit_6 : decode cX2_misfit 6 = .ok (.iconst 0, 1) := dqr0 dqK_3 dqw_cX2_misfit_0 6 rfl rfl
theorem dX2_misfit_7 : decode cX2_misfit 7 = .ok (.putfield 28, 3) := dqr2 dqK_181 dqw_cX2_misfit_0 7 rfl rfl rfl rfl rfl
theorem dX2_misfit_10 : decode cX2_misfit 10 = .ok (.iconst 0, 1) := dqr0 dqK_3 dqw_cX2_misfit_0 10 rfl rfl
theorem dX2_misfit_11 : decode cX2_misfit 11 = .ok (.istore_n 1, 1) := dqr0 dqK_60 dqw_cX2_misfit_0 11 rfl rfl
theorem dX2_misfit_12 : decode cX2_misfit 12 = .ok (.iload_n 1, 1) := dqr0 dqK_27 dqw_cX2_misfit_0 12 rfl rfl
theorem dX2_misfit_13 : decode cX2_misfit 13 = .ok (.aload_n 0, 1) := dqr0 dqK_42 dqw_cX2_misfit_0 13 rfl rfl
theorem dX2_misfit_14 : decode cX2_misfit 14 = .ok (.getfield 15, 3) := dqr2 dqK_180 dqw_cX2_misfit_0 14 rfl rfl rfl rfl rfl
theorem dX2_misfit_17 : decode cX2_misfit 17 = .ok (.if_icmp .ge 19, 3) := dqrs2 dqK_162 dqw_cX2_misfit_0 17 rfl rfl rfl rfl (by decide)
theorem dX2_misfit_20 : decode cX2_misfit 20 = .ok (.aload_n 0, 1) := dqr0 dqK_42 dqw_cX2_misfit_0 20 rfl rfl
theorem dX2_misfit_21 : decode cX2_misfit 21 = .ok (.iload_n 1, 1) := dqr0 dqK_27 dqw_cX2_misfit_0 21 rfl rfl
theorem dqw_cX2_misfit_22 : dqLF cX2_misfit 22 [182, 0, 74, 154, 0, 5, 27, 172, 132, 1, 1, 167, 255, 235, 42, 180, 0, 28, 153, 0, 14, 42] := by decide +kernel
theorem dX2_misfit_22 : decode cX2_misfit 22 = .ok (.invokevirtual 74, 3) := dqr2 dqK_182 dqw_cX2_misfit_22 0 rfl rfl rfl rfl rfl
theorem dX2_misfit_25 : decode cX2_misfit 25 = .ok (.ifCond .ne 5, 3) := dqrs2 dqK_154 dqw_cX2_misfit_22 3 rfl rfl rfl rfl (by decide)
theorem dX2_misfit_28 : decode cX2_misfit 28 = .ok (.iload_n 1, 1) := dqr0 dqK_27 dqw_cX2_misfit_22 6 rfl rfl
theorem dX2_misfit_29 : decode cX2_misfit 29 = .ok (.ireturn, 1) := dqr0 dqK_172 dqw_cX2_misfit_22 7 rfl rfl
theorem dX2_misfit_30 : decode cX2_misfit 30 = .ok (.iinc 1 1, 3) := dqri dqK_132 dqw_cX2_misfit_22 8 rfl rfl rfl rfl (by decide)
theorem dX2_misfit_33 : decode cX2_misfit 33 = .ok (.goto (-21), 3) := dqrs2 dqK_167 dqw_cX2_misfit_22 11 rfl rfl rfl rfl (by decide)
theorem dX2_misfit_36 : decode cX2_misfit 36 = .ok (.aload_n 0, 1) := dqr0 dqK_42 dqw_cX2_misfit_22 14 rfl rfl
theorem dX2_misfit_37 : decode cX2_misfit 37 = .ok (.getfield 28, 3) := dqr2 dqK_180 dqw_cX2_misfit_22 15 rfl rfl rfl rfl rfl
theorem dX2_misfit_40 : decode cX2_misfit 40 = .ok (.ifCond .eq 14, 3) := dqrs2 dqK_153 dqw_cX2_misfit_22 18 rfl rfl rfl rfl (by decide)
theorem dX2_misfit_43 : decode cX2_misfit 43 = .ok (.aload_n 0, 1) := dqr0 dqK_42 dqw_cX2_misfit_22 21 rfl rfl
theorem dqw_cX2_misfit_44 : dqLF cX2_misfit 44 [180, 0, 25, 154, 0, 7, 2, 167, 0, 7, 42, 180, 0, 15, 172] := by decide +kernel
theorem dX2_misfit_44 : decode cX2_misfit 44 = .ok (.getfield 25, 3) := dqr2 dqK_180 dqw_cX2_misfit_44 0 rfl rfl rfl rfl rfl
theorem dX2_misfit_47 : decode cX2_misfit 47 = .ok (.ifCond .ne 7, 3) := dqrs2 dqK_154 dqw_cX2_misfit_44 3 rfl rfl rfl rfl (by decide)
theorem dX2_misfit_50 : decode cX2_misfit 50 = .ok (.iconst (-1), 1) := dqr0 dqK_2 dqw_cX2_misfit_44 6 rfl rfl
theorem dX2_misfit_51 : decode cX2_misfit 51 = .ok (.goto 7, 3) := dqrs2 dqK_167 dqw_cX2_misfit_44 7 rfl rfl rfl rfl (by decide)
theorem dX2_misfit_54 : decode cX2_misfit 54 = .ok (.aload_n 0, 1) := dqr0 dqK_42 dqw_cX2_misfit_44 10 rfl rfl
theorem dX2_misfit_55 : decode cX2_misfit 55 = .ok (.getfield 15, 3) := dqr2 dqK_180 dqw_cX2_misfit_44 11 rfl rfl rfl rfl rfl
theorem dX2_misfit_58 : decode cX2_misfit 58 = .ok (.ireturn, 1) := dqr0 dqK_172 dqw_cX2_misfit_44 14 rfl rfl
theorem dqw_cX2_goesOn_0 : dqLF cX2_goesOn 0 [42, 180, 0, 9, 27, 46, 61, 27, 154, 0, 8, 28, 184, 0, 77, 172, 27, 4, 160, 0, 15, 28, 16, 61] := by decide +kernel
theorem dX2_goesOn_0 : decode cX2_goesOn 0 = .ok (.aload_n 0, 1) := dqr0 dqK_42 dqw_cX2_goesOn_0 0 rfl rfl
theorem dX2_goesOn_1 : decode cX2_goesOn 1 = .ok (.getfield 9, 3) := dqr2 dqK_180 dqw_cX2_goesOn_0 1 rfl rfl rfl rfl rfl
theorem dX2_goesOn_4 : decode cX2_goesOn 4 = .ok (.iload_n 1, 1) := dqr0 dqK_27 dqw_cX2_goesOn_0 4 rfl rfl
theorem dX2_goesOn_5 : decode cX2_goesOn 5 = .ok (.iaload, 1) := dqr0 dqK_46 dqw_cX2_goesOn_0 5 rfl rfl
theorem dX2_goesOn_6 : decode cX2_goesOn 6 = .ok (.istore_n 2, 1) := dqr0 dqK_61 dqw_cX2_goesOn_0 6 rfl rfl
theorem dX2_goesOn_7 : decode cX2_goesOn 7 = .ok (.iload_n 1, 1) := dqr0 dqK_27 dqw_cX2_goesOn_0 7 rfl rfl
theorem dX2_goesOn_8 : decode cX2_goesOn 8 = .ok (.ifCond .ne 8, 3) := dqrs2 dqK_154 dqw_cX2_goesOn_0 8 rfl rfl rfl rfl (by decide)
theorem dX2_goesOn_11 : decode cX2_goesOn 11 = .ok (.iload_n 2, 1) := dqr0 dqK_28 dqw_cX2_goesOn_0 11 rfl rfl
theorem dX2_goesOn_12 : decode cX2_goesOn 12 = .ok (.invokestatic 77, 3) := dqr2 dqK_184 dqw_cX2_goesOn_0 12 rfl rfl rfl rfl rfl
theorem dX2_goesOn_15 : decode cX2_goesOn 15 = .ok (.ireturn, 1) := dqr0 dqK_172 dqw_cX2_goesOn_0 15 rfl rfl
theorem dX2_goesOn_16 : decode cX2_goesOn 16 = .ok (.iload_n 1, 1) := dqr0 dqK_27 dqw_cX2_goesOn_0 16 rfl rfl
theorem dX2_goesOn_17 : decode cX2_goesOn 17 = .ok (.iconst 1, 1) := dqr0 dqK_4 dqw_cX2_goesOn_0 17 rfl rfl
theorem dX2_goesOn_18 : decode cX2_goesOn 18 = .ok (.if_icmp .ne 15, 3) := dqrs2 dqK_160 dqw_cX2_goesOn_0 18 rfl rfl rfl rfl (by decide)
theorem dX2_goesOn_21 : decode cX2_goesOn 21 = .ok (.iload_n 2, 1) := dqr0 dqK_28 dqw_cX2_goesOn_0 21 rfl rfl
theorem dX2_goesOn_22 : decode cX2_goesOn 22 = .ok (.bipush 61, 2) := dqrs1 dqK_16 dqw_cX2_goesOn_0 22 rfl rfl rfl (by decide)
theorem dqw_cX2_goesOn_24 : dqLF cX2_goesOn 24 [160, 0, 7, 4, 167, 0, 4, 3, 172, 28, 184, 0, 80, 154, 0, 10, 28, 184, 0, 77, 153, 0, 10, 42] := by decide +kernel
theorem dX2_goesOn_24 : decode cX2_goesOn 24 = .ok (.if_icmp .ne 7, 3) := dqrs2 dqK_160 dqw_cX2_goesOn_24 0 rfl rfl rfl rfl (by decide)
theorem dX2_goesOn_27 : decode cX2_goesOn 27 = .ok (.iconst 1, 1) := dqr0 dqK_4 dqw_cX2_goesOn_24 3 rfl rfl
theorem dX2_goesOn_28 : decode cX2_goesOn 28 = .ok (.goto 4, 3) := dqrs2 dqK_167 dqw_cX2_goesOn_24 4 rfl rfl rfl rfl (by decide)
theorem dX2_goesOn_31 : decode cX2_goesOn 31 = .ok (.iconst 0, 1) := dqr0 dqK_3 dqw_cX2_goesOn_24 7 rfl rfl
theorem dX2_goesOn_32 : decode cX2_goesOn 32 = .ok (.ireturn, 1) := dqr0 dqK_172 dqw_cX2_goesOn_24 8 rfl rfl
theorem dX2_goesOn_33 : decode cX2_goesOn 33 = .ok (.iload_n 2, 1) := dqr0 dqK_28 dqw_cX2_goesOn_24 9 rfl rfl
theorem dX2_goesOn_34 : decode cX2_goesOn 34 = .ok (.invokestatic 80, 3) := dqr2 dqK_184 dqw_cX2_goesOn_24 10 rfl rfl rfl rfl rfl
theorem dX2_goesOn_37 : decode cX2_goesOn 37 = .ok (.ifCond .ne 10, 3) := dqrs2 dqK_154 dqw_cX2_goesOn_24 13 rfl rfl rfl rfl (by decide)
theorem dX2_goesOn_40 : decode cX2_goesOn 40 = .ok (.iload_n 2, 1) := dqr0 dqK_28 dqw_cX2_goesOn_24 16 rfl rfl
theorem dX2_goesOn_41 : decode cX2_goesOn 41 = .ok (.invokestatic 77, 3) := dqr2 dqK_184 dqw_cX2_goesOn_24 17 rfl rfl rfl rfl rfl
theorem dX2_goesOn_44 : decode cX2_goesOn 44 = .ok (.ifCond .eq 10, 3) := dqrs2 dqK_153 dqw_cX2_goesOn_24 20 rfl rfl rfl rfl (by decide)
theorem dX2_goesOn_47 : decode cX2_goesOn 47 = .ok (.aload_n 0, 1) := dqr0 dqK_42 dqw_cX2_goesOn_24 23 rfl rfl
theorem dqw_cX2_goesOn_48 : dqLF cX2_goesOn 48 [4, 181, 0, 28, 4, 172, 28, 16, 91, 159, 0, 15, 28, 16, 123, 159, 0, 9, 28, 16, 40, 160, 0, 9] := by decide +kernel
theorem dX2_goesOn_48 : decode cX2_goesOn 48 = .ok (.iconst 1, 1) := dqr0 dqK_4 dqw_cX2_goesOn_48 0 rfl rfl
theorem dX2_goesOn_49 : decode cX2_goesOn 49 = .ok (.putfield 28, 3) := dqr2 dqK_181 dqw_cX2_goesOn_48 1 rfl rfl rfl rfl rfl
theorem dX2_goesOn_52 : decode cX2_goesOn 52 = .ok (.iconst 1, 1) := dqr0 dqK_4 dqw_cX2_goesOn_48 4 rfl rfl
theorem dX2_goesOn_53 : decode cX2_goesOn 53 = .ok (.ireturn, 1) := dqr0 dqK_172 dqw_cX2_goesOn_48 5 rfl rfl
theorem dX2_goesOn_54 : decode cX2_goesOn 54 = .ok (.iload_n 2, 1) := dqr0 dqK_28 dqw_cX2_goesOn_48 6 rfl rfl
theorem dX2_goesOn_55 : decode cX2_goesOn 55 = .ok (.bipush 91, 2) := dqrs1 dqK_16 dqw_cX2_goesOn_48 7 rfl rfl rfl (by decide)
theorem dX2_goesOn_57 : decode cX2_goesOn 57 = .ok (.if_icmp .eq 15, 3) := dqrs2 dqK_159 dqw_cX2_goesOn_48 9 rfl rfl rfl rfl (by decide)
theorem dX2_goesOn_60 : decode cX2_goesOn 60 = .ok (.iload_n 2, 1) := dqr0 dqK_28 dqw_cX2_goesOn_48 12 rfl rfl
theorem dX2_goesOn_61 : decode cX2_goesOn 61 = .ok (.bipush 123, 2) := dqrs1 dqK_16 dqw_cX2_goesOn_48 13 rfl rfl rfl (by decide)
theorem dX2_goesOn_63 : decode cX2_goesOn 63 = .ok (.if_icmp .eq 9, 3) := dqrs2 dqK_159 dqw_cX2_goesOn_48 15 rfl rfl rfl rfl (by decide)
theorem dX2_goesOn_66 : decode cX2_goesOn 66 = .ok (.iload_n 2, 1) := dqr0 dqK_28 dqw_cX2_goesOn_48 18 rfl rfl
theorem dX2_goesOn_67 : decode cX2_goesOn 67 = .ok (.bipush 40, 2) := dqrs1 dqK_16 dqw_cX2_goesOn_48 19 rfl rfl rfl (by decide)
theorem dX2_goesOn_69 : decode cX2_goesOn 69 = .ok (.if_icmp .ne 9, 3) := dqrs2 dqK_160 dqw_cX2_goesOn_48 21 rfl rfl rfl rfl (by decide)
theorem dqw_cX2_goesOn_72 : dqLF cX2_goesOn 72 [42, 27, 182, 0, 83, 172, 42, 180, 0, 28, 153, 0, 33, 42, 180, 0, 25, 158, 0, 26, 42, 27, 42] := by decide +kernel
theorem dX2_goesOn_72 : decode cX2_goesOn 72 = .ok (.aload_n 0, 1) := dqr0 dqK_42 dqw_cX2_goesOn_72 0 rfl rfl
theorem dX2_goesOn_73 : decode cX2_goesOn 73 = .ok (.iload_n 1, 1) := dqr0 dqK_27 dqw_cX2_goesOn_72 1 rfl rfl
theorem dX2_goesOn_74 : decode cX2_goesOn 74 = .ok (.invokevirtual 83, 3) := dqr2 dqK_182 dqw_cX2_goesOn_72 2 rfl rfl rfl rfl rfl
theorem dX2_goesOn_77 : decode cX2_goesOn 77 = .ok (.ireturn, 1) := dqr0 dqK_172 dqw_cX2_goesOn_72 5 rfl rfl
theorem dX2_goesOn_78 : decode cX2_goesOn 78 = .ok (.aload_n 0, 1) := dqr0 dqK_42 dqw_cX2_goesOn_72 6 rfl rfl
theorem dX2_goesOn_79 : decode cX2_goesOn 79 = .ok (.getfield 28, 3) := dqr2 dqK_180 dqw_cX2_goesOn_72 7 rfl rfl rfl rfl rfl
theorem dX2_goesOn_82 : decode cX2_goesOn 82 = .ok (.ifCond .eq 33, 3) := dqrs2 dqK_153 dqw_cX2_goesOn_72 10 rfl rfl rfl rfl (by decide)
theorem dX2_goesOn_85 : decode cX2_goesOn 85 = .ok (.aload_n 0, 1) := dqr0 dqK_42 dqw_cX2_goesOn_72 13 rfl rfl
theorem dX2_goesOn_86 : decode cX2_goesOn 86 = .ok (.getfield 25, 3) := dqr2 dqK_180 dqw_cX2_goesOn_72 14 rfl rfl rfl rfl rfl
theorem dX2_goesOn_89 : decode cX2_goesOn 89 = .ok (.ifCond .le 26, 3) := dqrs2 dqK_158 dqw_cX2_goesOn_72 17 rfl rfl rfl rfl (by decide)
theorem dX2_goesOn_92 : decode cX2_goesOn 92 = .ok (.aload_n 0, 1) := dqr0 dqK_42 dqw_cX2_goesOn_72 20 rfl rfl
theorem dX2_goesOn_93 : decode cX2_goesOn 93 = .ok (.iload_n 1, 1) := dqr0 dqK_27 dqw_cX2_goesOn_72 21 rfl rfl
theorem dX2_goesOn_94 : decode cX2_goesOn 94 = .ok (.aload_n 0, 1) := dqr0 dqK_42 dqw_cX2_goesOn_72 22 rfl rfl
theorem dqw_cX2_goesOn_95 : dqLF cX2_goesOn 95 [180, 0, 22, 42, 180, 0, 25, 4, 100, 46, 182, 0, 86, 153, 0, 7, 4, 167, 0, 4, 3, 172] := by decide +kernel
theorem dX2_goesOn_95 : decode cX2_goesOn 95 = .ok (.getfield 22, 3) := dqr2 dqK_180 dqw_cX2_goesOn_95 0 rfl rfl rfl rfl rfl
theorem dX2_goesOn_98 : decode cX2_goesOn 98 = .ok (.aload_n 0, 1) := dqr0 dqK_42 dqw_cX2_goesOn_95 3 rfl rfl
theorem dX2_goesOn_99 : decode cX2_goesOn 99 = .ok (.getfield 25, 3) := dqr2 dqK_180 dqw_cX2_goesOn_95 4 rfl rfl rfl rfl rfl
theorem dX2_goesOn_102 : decode cX2_goesOn 102 = .ok (.iconst 1, 1) := dqr0 dqK_4 dqw_cX2_goesOn_95 7 rfl rfl
theorem dX2_goesOn_103 : decode cX2_goesOn 103 = .ok (.isub, 1) := dqr0 dqK_100 dqw_cX2_goesOn_95 8 rfl rfl
theorem dX2_goesOn_104 : decode cX2_goesOn 104 = .ok (.iaload, 1) := dqr0 dqK_46 dqw_cX2_goesOn_95 9 rfl rfl
theorem dX2_goesOn_105 : decode cX2_goesOn 105 = .ok (.invokevirtual 86, 3) := dqr2 dqK_182 dqw_cX2_goesOn_95 10 rfl rfl rfl rfl rfl
theorem dX2_goesOn_108 : decode cX2_goesOn 108 = .ok (.ifCond .eq 7, 3) := dqrs2 dqK_153 dqw_cX2_goesOn_95 13 rfl rfl rfl rfl (by decide)
theorem dX2_goesOn_111 : decode cX2_goesOn 111 = .ok (.iconst 1, 1) := dqr0 dqK_4 dqw_cX2_goesOn_95 16 rfl rfl
theorem dX2_goesOn_112 : decode cX2_goesOn 112 = .ok (.goto 4, 3) := dqrs2 dqK_167 dqw_cX2_goesOn_95 17 rfl rfl rfl rfl (by decide)
theorem dX2_goesOn_115 : decode cX2_goesOn 115 = .ok (.iconst 0, 1) := dqr0 dqK_3 dqw_cX2_goesOn_95 20 rfl rfl
theorem dX2_goesOn_116 : decode cX2_goesOn 116 = .ok (.ireturn, 1) := dqr0 dqK_172 dqw_cX2_goesOn_95 21 rfl rfl
theorem dqw_cX2_opens_0 : dqLF cX2_opens 0 [42, 180, 0, 25, 16, 60, 161, 0, 5, 3, 172, 42, 180, 0, 22, 42, 180, 0, 25, 27, 79, 42, 89] := by decide +kernel
theorem dX2_opens_0 : decode cX2_opens 0 = .ok (.aload_n 0, 1) := dqr0 dqK_42 dqw_cX2_opens_0 0 rfl rfl
theorem dX2_opens_1 : decode cX2_opens 1 = .ok (.getfield 25, 3) := dqr2 dqK_180 dqw_cX2_opens_0 1 rfl rfl rfl rfl rfl
theorem dX2_opens_4 : decode cX2_opens 4 = .ok (.bipush 60, 2) := dqrs1 dqK_16 dqw_cX2_opens_0 4 rfl rfl rfl (by decide)
theorem dX2_opens_6 : decode cX2_opens 6 = .ok (.if_icmp .lt 5, 3) := dqrs2 dqK_161 dqw_cX2_opens_0 6 rfl rfl rfl rfl (by decide)
theorem dX2_opens_9 : decode cX2_opens 9 = .ok (.iconst 0, 1) := dqr0 dqK_3 dqw_cX2_opens_0 9 rfl rfl
theorem dX2_opens_10 : decode cX2_opens 10 = .ok (.ireturn, 1) := dqr0 dqK_172 dqw_cX2_opens_0 10 rfl rfl
theorem dX2_opens_11 : decode cX2_opens 11 = .ok (.aload_n 0, 1) := dqr0 dqK_42 dqw_cX2_opens_0 11 rfl rfl
theorem dX2_opens_12 : decode cX2_opens 12 = .ok (.getfield 22, 3) := dqr2 dqK_180 dqw_cX2_opens_0 12 rfl rfl rfl rfl rfl
theorem dX2_opens_15 : decode cX2_opens 15 = .ok (.aload_n 0, 1) := dqr0 dqK_42 dqw_cX2_opens_0 15 rfl rfl
theorem dX2_opens_16 : decode cX2_opens 16 = .ok (.getfield 25, 3) := dqr2 dqK_180 dqw_cX2_opens_0 16 rfl rfl rfl rfl rfl
theorem dX2_opens_19 : decode cX2_opens 19 = .ok (.iload_n 1, 1) := dqr0 dqK_27 dqw_cX2_opens_0 19 rfl rfl
theorem dX2_opens_20 : decode cX2_opens 20 = .ok (.iastore, 1) := dqr0 dqK_79 dqw_cX2_opens_0 20 rfl rfl
theorem dX2_opens_21 : decode cX2_opens 21 = .ok (.aload_n 0, 1) := dqr0 dqK_42 dqw_cX2_opens_0 21 rfl rfl
theorem dX2_opens_22 : decode cX2_opens 22 = .ok (.dup, 1) := dqr0 dqK_89 dqw_cX2_opens_0 22 rfl rfl
theorem dqw_cX2_opens_23 : dqLF cX2_opens 23 [180, 0, 25, 4, 96, 181, 0, 25, 42, 3, 181, 0, 28, 4, 172] := by decide +kernel
theorem dX2_opens_23 : decode cX2_opens 23 = .ok (.getfield 25, 3) := dqr2 dqK_180 dqw_cX2_opens_23 0 rfl rfl rfl rfl rfl
theorem dX2_opens_26 : decode cX2_opens 26 = .ok (.iconst 1, 1) := dqr0 dqK_4 dqw_cX2_opens_23 3 rfl rfl
theorem dX2_opens_27 : decode cX2_opens 27 = .ok (.iadd, 1) := dqr0 dqK_96 dqw_cX2_opens_23 4 rfl rfl
theorem dX2_opens_28 : decode cX2_opens 28 = .ok (.putfield 25, 3) := dqr2 dqK_181 dqw_cX2_opens_23 5 rfl rfl rfl rfl rfl
theorem dX2_opens_31 : decode cX2_opens 31 = .ok (.aload_n 0, 1) := dqr0 dqK_42 dqw_cX2_opens_23 8 rfl rfl
theorem dX2_opens_32 : decode cX2_opens 32 = .ok (.iconst 0, 1) := dqr0 dqK_3 dqw_cX2_opens_23 9 rfl rfl
theorem dX2_opens_33 : decode cX2_opens 33 = .ok (.putfield 28, 3) := dqr2 dqK_181 dqw_cX2_opens_23 10 rfl rfl rfl rfl rfl
theorem dX2_opens_36 : decode cX2_opens 36 = .ok (.iconst 1, 1) := dqr0 dqK_4 dqw_cX2_opens_23 13 rfl rfl
theorem dX2_opens_37 : decode cX2_opens 37 = .ok (.ireturn, 1) := dqr0 dqK_172 dqw_cX2_opens_23 14 rfl rfl
theorem dqw_cX2_closes_0 : dqLF cX2_closes 0 [42, 180, 0, 9, 27, 46, 16, 124, 160, 0, 40, 42, 180, 0, 9, 28, 46, 16, 40, 160, 0, 29, 42] := by decide +kernel
theorem dX2_closes_0 : decode cX2_closes 0 = .ok (.aload_n 0, 1) := dqr0 dqK_42 dqw_cX2_closes_0 0 rfl rfl
theorem dX2_closes_1 : decode cX2_closes 1 = .ok (.getfield 9, 3) := dqr2 dqK_180 dqw_cX2_closes_0 1 rfl rfl rfl rfl rfl
theorem dX2_closes_4 : decode cX2_closes 4 = .ok (.iload_n 1, 1) := dqr0 dqK_27 dqw_cX2_closes_0 4 rfl rfl
theorem dX2_closes_5 : decode cX2_closes 5 = .ok (.iaload, 1) := dqr0 dqK_46 dqw_cX2_closes_0 5 rfl rfl
theorem dX2_closes_6 : decode cX2_closes 6 = .ok (.bipush 124, 2) := dqrs1 dqK_16 dqw_cX2_closes_0 6 rfl rfl rfl (by decide)
theorem dX2_closes_8 : decode cX2_closes 8 = .ok (.if_icmp .ne 40, 3) := dqrs2 dqK_160 dqw_cX2_closes_0 8 rfl rfl rfl rfl (by decide)
theorem dX2_closes_11 : decode cX2_closes 11 = .ok (.aload_n 0, 1) := dqr0 dqK_42 dqw_cX2_closes_0 11 rfl rfl
theorem dX2_closes_12 : decode cX2_closes 12 = .ok (.getfield 9, 3) := dqr2 dqK_180 dqw_cX2_closes_0 12 rfl rfl rfl rfl rfl
theorem dX2_closes_15 : decode cX2_closes 15 = .ok (.iload_n 2, 1) := dqr0 dqK_28 dqw_cX2_closes_0 15 rfl rfl
theorem dX2_closes_16 : decode cX2_closes 16 = .ok (.iaload, 1) := dqr0 dqK_46 dqw_cX2_closes_0 16 rfl rfl
theorem dX2_closes_17 : decode cX2_closes 17 = .ok (.bipush 40, 2) := dqrs1 dqK_16 dqw_cX2_closes_0 17 rfl rfl rfl (by decide)
theorem dX2_closes_19 : decode cX2_closes 19 = .ok (.if_icmp .ne 29, 3) := dqrs2 dqK_160 dqw_cX2_closes_0 19 rfl rfl rfl rfl (by decide)
theorem dX2_closes_22 : decode cX2_closes 22 = .ok (.aload_n 0, 1) := dqr0 dqK_42 dqw_cX2_closes_0 22 rfl rfl
theorem dqw_cX2_closes_23 : dqLF cX2_closes 23 [180, 0, 19, 28, 27, 79, 42, 180, 0, 22, 42, 180, 0, 25, 4, 100, 27, 79, 42, 3, 181, 0, 28, 4] := by decide +kernel
theorem dX2_closes_23 : decode cX2_closes 23 = .ok (.getfield 19, 3) := dqr2 dqK_180 dqw_cX2_closes_23 0 rfl rfl rfl rfl rfl
theorem dX2_closes_26 : decode cX2_closes 26 = .ok (.iload_n 2, 1) := dqr0 dqK_28 dqw_cX2_closes_23 3 rfl rfl
theorem dX2_closes_27 : decode cX2_closes 27 = .ok (.iload_n 1, 1) := dqr0 dqK_27 dqw_cX2_closes_23 4 rfl rfl
theorem dX2_closes_28 : decode cX2_closes 28 = .ok (.iastore, 1) := dqr0 dqK_79 dqw_cX2_closes_23 5 rfl rfl
theorem dX2_closes_29 : decode cX2_closes 29 = .ok (.aload_n 0, 1) := dqr0 dqK_42 dqw_cX2_closes_23 6 rfl rfl
theorem dX2_closes_30 : decode cX2_closes 30 = .ok (.getfield 22, 3) := dqr2 dqK_180 dqw_cX2_closes_23 7 rfl rfl rfl rfl rfl
theorem dX2_closes_33 : decode cX2_closes 33 = .ok (.aload_n 0, 1) := dqr0 dqK_42 dqw_cX2_closes_23 10 rfl rfl
theorem dX2_closes_34 : decode cX2_closes 34 = .ok (.getfield 25, 3) := dqr2 dqK_180 dqw_cX2_closes_23 11 rfl rfl rfl rfl rfl
theorem dX2_closes_37 : decode cX2_closes 37 = .ok (.iconst 1, 1) := dqr0 dqK_4 dqw_cX2_closes_23 14 rfl rfl
theorem dX2_closes_38 : decode cX2_closes 38 = .ok (.isub, 1) := dqr0 dqK_100 dqw_cX2_closes_23 15 rfl rfl
theorem dX2_closes_39 : decode cX2_closes 39 = .ok (.iload_n 1, 1) := dqr0 dqK_27 dqw_cX2_closes_23 16 rfl rfl
theorem dX2_closes_40 : decode cX2_closes 40 = .ok (.iastore, 1) := dqr0 dqK_79 dqw_cX2_closes_23 17 rfl rfl
theorem dX2_closes_41 : decode cX2_closes 41 = .ok (.aload_n 0, 1) := dqr0 dqK_42 dqw_cX2_closes_23 18 rfl rfl
theorem dX2_closes_42 : decode cX2_closes 42 = .ok (.iconst 0, 1) := dqr0 dqK_3 dqw_cX2_closes_23 19 rfl rfl
theorem dX2_closes_43 : decode cX2_closes 43 = .ok (.putfield 28, 3) := dqr2 dqK_181 dqw_cX2_closes_23 20 rfl rfl rfl rfl rfl
theorem dX2_closes_46 : decode cX2_closes 46 = .ok (.iconst 1, 1) := dqr0 dqK_4 dqw_cX2_closes_23 23 rfl rfl
theorem dqw_cX2_closes_47 : dqLF cX2_closes 47 [172, 42, 180, 0, 9, 27, 46, 42, 180, 0, 9, 28, 46, 184, 0, 90, 159, 0, 5, 3, 172, 42] := by decide +kernel
theorem dX2_closes_47 : decode cX2_closes 47 = .ok (.ireturn, 1) := dqr0 dqK_172 dqw_cX2_closes_47 0 rfl rfl
theorem dX2_closes_48 : decode cX2_closes 48 = .ok (.aload_n 0, 1) := dqr0 dqK_42 dqw_cX2_closes_47 1 rfl rfl
theorem dX2_closes_49 : decode cX2_closes 49 = .ok (.getfield 9, 3) := dqr2 dqK_180 dqw_cX2_closes_47 2 rfl rfl rfl rfl rfl
theorem dX2_closes_52 : decode cX2_closes 52 = .ok (.iload_n 1, 1) := dqr0 dqK_27 dqw_cX2_closes_47 5 rfl rfl
theorem dX2_closes_53 : decode cX2_closes 53 = .ok (.iaload, 1) := dqr0 dqK_46 dqw_cX2_closes_47 6 rfl rfl
theorem dX2_closes_54 : decode cX2_closes 54 = .ok (.aload_n 0, 1) := dqr0 dqK_42 dqw_cX2_closes_47 7 rfl rfl
theorem dX2_closes_55 : decode cX2_closes 55 = .ok (.getfield 9, 3) := dqr2 dqK_180 dqw_cX2_closes_47 8 rfl rfl rfl rfl rfl
theorem dX2_closes_58 : decode cX2_closes 58 = .ok (.iload_n 2, 1) := dqr0 dqK_28 dqw_cX2_closes_47 11 rfl rfl
theorem dX2_closes_59 : decode cX2_closes 59 = .ok (.iaload, 1) := dqr0 dqK_46 dqw_cX2_closes_47 12 rfl rfl
theorem dX2_closes_60 : decode cX2_closes 60 = .ok (.invokestatic 90, 3) := dqr2 dqK_184 dqw_cX2_closes_47 13 rfl rfl rfl rfl rfl
theorem dX2_closes_63 : decode cX2_closes 63 = .ok (.if_icmp .eq 5, 3) := dqrs2 dqK_159 dqw_cX2_closes_47 16 rfl rfl rfl rfl (by decide)
theorem dX2_closes_66 : decode cX2_closes 66 = .ok (.iconst 0, 1) := dqr0 dqK_3 dqw_cX2_closes_47 19 rfl rfl
theorem dX2_closes_67 : decode cX2_closes 67 = .ok (.ireturn, 1) := dqr0 dqK_172 dqw_cX2_closes_47 20 rfl rfl
theorem dX2_closes_68 : decode cX2_closes 68 = .ok (.aload_n 0, 1) := dqr0 dqK_42 dqw_cX2_closes_47 21 rfl rfl
theorem dqw_cX2_closes_69 : dqLF cX2_closes 69 [180, 0, 19, 28, 27, 79, 42, 180, 0, 19, 27, 28, 79, 42, 89, 180, 0, 25, 4, 100, 181, 0, 25, 4] := by decide +kernel
theorem dX2_closes_69 : decode cX2_closes 69 = .ok (.getfield 19, 3) := dqr2 dqK_180 dqw_cX2_closes_69 0 rfl rfl rfl rfl rfl
theorem dX2_closes_72 : decode cX2_closes 72 = .ok (.iload_n 2, 1) := dqr0 dqK_28 dqw_cX2_closes_69 3 rfl rfl
theorem dX2_closes_73 : decode cX2_closes 73 = .ok (.iload_n 1, 1) := dqr0 dqK_27 dqw_cX2_closes_69 4 rfl rfl
theorem dX2_closes_74 : decode cX2_closes 74 = .ok (.iastore, 1) := dqr0 dqK_79 dqw_cX2_closes_69 5 rfl rfl
theorem dX2_closes_75 : decode cX2_closes 75 = .ok (.aload_n 0, 1) := dqr0 dqK_42 dqw_cX2_closes_69 6 rfl rfl
theorem dX2_closes_76 : decode cX2_closes 76 = .ok (.getfield 19, 3) := dqr2 dqK_180 dqw_cX2_closes_69 7 rfl rfl rfl rfl rfl
theorem dX2_closes_79 : decode cX2_closes 79 = .ok (.iload_n 1, 1) := dqr0 dqK_27 dqw_cX2_closes_69 10 rfl rfl
theorem dX2_closes_80 : decode cX2_closes 80 = .ok (.iload_n 2, 1) := dqr0 dqK_28 dqw_cX2_closes_69 11 rfl rfl
theorem dX2_closes_81 : decode cX2_closes 81 = .ok (.iastore, 1) := dqr0 dqK_79 dqw_cX2_closes_69 12 rfl rfl
theorem dX2_closes_82 : decode cX2_closes 82 = .ok (.aload_n 0, 1) := dqr0 dqK_42 dqw_cX2_closes_69 13 rfl rfl
theorem dX2_closes_83 : decode cX2_closes 83 = .ok (.dup, 1) := dqr0 dqK_89 dqw_cX2_closes_69 14 rfl rfl
theorem dX2_closes_84 : decode cX2_closes 84 = .ok (.getfield 25, 3) := dqr2 dqK_180 dqw_cX2_closes_69 15 rfl rfl rfl rfl rfl
theorem dX2_closes_87 : decode cX2_closes 87 = .ok (.iconst 1, 1) := dqr0 dqK_4 dqw_cX2_closes_69 18 rfl rfl
theorem dX2_closes_88 : decode cX2_closes 88 = .ok (.isub, 1) := dqr0 dqK_100 dqw_cX2_closes_69 19 rfl rfl
theorem dX2_closes_89 : decode cX2_closes 89 = .ok (.putfield 25, 3) := dqr2 dqK_181 dqw_cX2_closes_69 20 rfl rfl rfl rfl rfl
theorem dX2_closes_92 : decode cX2_closes 92 = .ok (.iconst 1, 1) := dqr0 dqK_4 dqw_cX2_closes_69 23 rfl rfl
theorem dqw_cX2_closes_93 : dqLF cX2_closes 93 [172] := by decide +kernel
theorem dX2_closes_93 : decode cX2_closes 93 = .ok (.ireturn, 1) := dqr0 dqK_172 dqw_cX2_closes_93 0 rfl rfl
theorem dqw_cX2_closer_0 : dqLF cX2_closer 0 [26] := by decide +kernel
theorem dX2_closer_0 : decode cX2_closer 0 = .ok (.iload_n 0, 1) := dqr0 dqK_26 dqw_cX2_closer_0 0 rfl rfl
theorem dX2_closer_1 : decode cX2_closer 1 = .ok (.lookupswitch 44 #[(91, 35), (123, 38), (124, 41)], 35) := by decide +kernel
theorem dqw_cX2_closer_36 : dqLF cX2_closer 36 [16, 93, 172, 16, 125, 172, 16, 41, 172, 2, 172] := by decide +kernel
theorem dX2_closer_36 : decode cX2_closer 36 = .ok (.bipush 93, 2) := dqrs1 dqK_16 dqw_cX2_closer_36 0 rfl rfl rfl (by decide)
theorem dX2_closer_38 : decode cX2_closer 38 = .ok (.ireturn, 1) := dqr0 dqK_172 dqw_cX2_closer_36 2 rfl rfl
theorem dX2_closer_39 : decode cX2_closer 39 = .ok (.bipush 125, 2) := dqrs1 dqK_16 dqw_cX2_closer_36 3 rfl rfl rfl (by decide)
theorem dX2_closer_41 : decode cX2_closer 41 = .ok (.ireturn, 1) := dqr0 dqK_172 dqw_cX2_closer_36 5 rfl rfl
theorem dX2_closer_42 : decode cX2_closer 42 = .ok (.bipush 41, 2) := dqrs1 dqK_16 dqw_cX2_closer_36 6 rfl rfl rfl (by decide)
theorem dX2_closer_44 : decode cX2_closer 44 = .ok (.ireturn, 1) := dqr0 dqK_172 dqw_cX2_closer_36 8 rfl rfl
theorem dX2_closer_45 : decode cX2_closer 45 = .ok (.iconst (-1), 1) := dqr0 dqK_2 dqw_cX2_closer_36 9 rfl rfl
theorem dX2_closer_46 : decode cX2_closer 46 = .ok (.ireturn, 1) := dqr0 dqK_172 dqw_cX2_closer_36 10 rfl rfl
theorem dqw_cX2_untold_0 : dqLF cX2_untold 0 [5, 61, 28, 42, 180, 0, 15, 162, 0, 46, 42, 180, 0, 9, 28, 46, 184, 0, 77, 153, 0, 28, 42] := by decide +kernel
theorem dX2_untold_0 : decode cX2_untold 0 = .ok (.iconst 2, 1) := dqr0 dqK_5 dqw_cX2_untold_0 0 rfl rfl
theorem dX2_untold_1 : decode cX2_untold 1 = .ok (.istore_n 2, 1) := dqr0 dqK_61 dqw_cX2_untold_0 1 rfl rfl
theorem dX2_untold_2 : decode cX2_untold 2 = .ok (.iload_n 2, 1) := dqr0 dqK_28 dqw_cX2_untold_0 2 rfl rfl
theorem dX2_untold_3 : decode cX2_untold 3 = .ok (.aload_n 0, 1) := dqr0 dqK_42 dqw_cX2_untold_0 3 rfl rfl
theorem dX2_untold_4 : decode cX2_untold 4 = .ok (.getfield 15, 3) := dqr2 dqK_180 dqw_cX2_untold_0 4 rfl rfl rfl rfl rfl
theorem dX2_untold_7 : decode cX2_untold 7 = .ok (.if_icmp .ge 46, 3) := dqrs2 dqK_162 dqw_cX2_untold_0 7 rfl rfl rfl rfl (by decide)
theorem dX2_untold_10 : decode cX2_untold 10 = .ok (.aload_n 0, 1) := dqr0 dqK_42 dqw_cX2_untold_0 10 rfl rfl
theorem dX2_untold_11 : decode cX2_untold 11 = .ok (.getfield 9, 3) := dqr2 dqK_180 dqw_cX2_untold_0 11 rfl rfl rfl rfl rfl
theorem dX2_untold_14 : decode cX2_untold 14 = .ok (.iload_n 2, 1) := dqr0 dqK_28 dqw_cX2_untold_0 14 rfl rfl
theorem dX2_untold_15 : decode cX2_untold 15 = .ok (.iaload, 1) := dqr0 dqK_46 dqw_cX2_untold_0 15 rfl rfl
theorem dX2_untold_16 : decode cX2_untold 16 = .ok (.invokestatic 77, 3) := dqr2 dqK_184 dqw_cX2_untold_0 16 rfl rfl rfl rfl rfl
theorem dX2_untold_19 : decode cX2_untold 19 = .ok (.ifCond .eq 28, 3) := dqrs2 dqK_153 dqw_cX2_untold_0 19 rfl rfl rfl rfl (by decide)
theorem dX2_untold_22 : decode cX2_untold 22 = .ok (.aload_n 0, 1) := dqr0 dqK_42 dqw_cX2_untold_0 22 rfl rfl
theorem dqw_cX2_untold_23 : dqLF cX2_untold 23 [180, 0, 9, 28, 46, 16, 65, 100, 62, 29, 27, 159, 0, 11, 42, 29, 182, 0, 93, 154, 0, 5, 28, 172] := by decide +kernel
theorem dX2_untold_23 : decode cX2_untold 23 = .ok (.getfield 9, 3) := dqr2 dqK_180 dqw_cX2_untold_23 0 rfl rfl rfl rfl rfl
theorem dX2_untold_26 : decode cX2_untold 26 = .ok (.iload_n 2, 1) := dqr0 dqK_28 dqw_cX2_untold_23 3 rfl rfl
theorem dX2_untold_27 : decode cX2_untold 27 = .ok (.iaload, 1) := dqr0 dqK_46 dqw_cX2_untold_23 4 rfl rfl
theorem dX2_untold_28 : decode cX2_untold 28 = .ok (.bipush 65, 2) := dqrs1 dqK_16 dqw_cX2_untold_23 5 rfl rfl rfl (by decide)
theorem dX2_untold_30 : decode cX2_untold 30 = .ok (.isub, 1) := dqr0 dqK_100 dqw_cX2_untold_23 7 rfl rfl
theorem dX2_untold_31 : decode cX2_untold 31 = .ok (.istore_n 3, 1) := dqr0 dqK_62 dqw_cX2_untold_23 8 rfl rfl
theorem dX2_untold_32 : decode cX2_untold 32 = .ok (.iload_n 3, 1) := dqr0 dqK_29 dqw_cX2_untold_23 9 rfl rfl
theorem dX2_untold_33 : decode cX2_untold 33 = .ok (.iload_n 1, 1) := dqr0 dqK_27 dqw_cX2_untold_23 10 rfl rfl
theorem dX2_untold_34 : decode cX2_untold 34 = .ok (.if_icmp .eq 11, 3) := dqrs2 dqK_159 dqw_cX2_untold_23 11 rfl rfl rfl rfl (by decide)
theorem dX2_untold_37 : decode cX2_untold 37 = .ok (.aload_n 0, 1) := dqr0 dqK_42 dqw_cX2_untold_23 14 rfl rfl
theorem dX2_untold_38 : decode cX2_untold 38 = .ok (.iload_n 3, 1) := dqr0 dqK_29 dqw_cX2_untold_23 15 rfl rfl
theorem dX2_untold_39 : decode cX2_untold 39 = .ok (.invokevirtual 93, 3) := dqr2 dqK_182 dqw_cX2_untold_23 16 rfl rfl rfl rfl rfl
theorem dX2_untold_42 : decode cX2_untold 42 = .ok (.ifCond .ne 5, 3) := dqrs2 dqK_154 dqw_cX2_untold_23 19 rfl rfl rfl rfl (by decide)
theorem dX2_untold_45 : decode cX2_untold 45 = .ok (.iload_n 2, 1) := dqr0 dqK_28 dqw_cX2_untold_23 22 rfl rfl
theorem dX2_untold_46 : decode cX2_untold 46 = .ok (.ireturn, 1) := dqr0 dqK_172 dqw_cX2_untold_23 23 rfl rfl
theorem dqw_cX2_untold_47 : dqLF cX2_untold 47 [132, 2, 1, 167, 255, 208, 2, 172] := by decide +kernel
theorem dX2_untold_47 : decode cX2_untold 47 = .ok (.iinc 2 1, 3) := dqri dqK_132 dqw_cX2_untold_47 0 rfl rfl rfl rfl (by decide)
theorem dX2_untold_50 : decode cX2_untold 50 = .ok (.goto (-48), 3) := dqrs2 dqK_167 dqw_cX2_untold_47 3 rfl rfl rfl rfl (by decide)
theorem dX2_untold_53 : decode cX2_untold 53 = .ok (.iconst (-1), 1) := dqr0 dqK_2 dqw_cX2_untold_47 6 rfl rfl
theorem dX2_untold_54 : decode cX2_untold 54 = .ok (.ireturn, 1) := dqr0 dqK_172 dqw_cX2_untold_47 7 rfl rfl
theorem dqw_cX2_standsInAnother_0 : dqLF cX2_standsInAnother 0 [3, 61, 28, 16, 8, 162, 0, 25, 42, 180, 0, 41, 28, 46, 27, 122, 4, 126, 4, 160, 0, 5, 4, 172] := by decide +kernel
theorem dX2_standsInAnother_0 : decode cX2_standsInAnother 0 = .ok (.iconst 0, 1) := dqr0 dqK_3 dqw_cX2_standsInAnother_0 0 rfl rfl
theorem dX2_standsInAnother_1 : decode cX2_standsInAnother 1 = .ok (.istore_n 2, 1) := dqr0 dqK_61 dqw_cX2_standsInAnother_0 1 rfl rfl
theorem dX2_standsInAnother_2 : decode cX2_standsInAnother 2 = .ok (.iload_n 2, 1) := dqr0 dqK_28 dqw_cX2_standsInAnother_0 2 rfl rfl
theorem dX2_standsInAnother_3 : decode cX2_standsInAnother 3 = .ok (.bipush 8, 2) := dqrs1 dqK_16 dqw_cX2_standsInAnother_0 3 rfl rfl rfl (by decide)
theorem dX2_standsInAnother_5 : decode cX2_standsInAnother 5 = .ok (.if_icmp .ge 25, 3) := dqrs2 dqK_162 dqw_cX2_standsInAnother_0 5 rfl rfl rfl rfl (by decide)
theorem dX2_standsInAnother_8 : decode cX2_standsInAnother 8 = .ok (.aload_n 0, 1) := dqr0 dqK_42 dqw_cX2_standsInAnother_0 8 rfl rfl
theorem dX2_standsInAnother_9 : decode cX2_standsInAnother 9 = .ok (.getfield 41, 3) := dqr2 dqK_180 dqw_cX2_standsInAnother_0 9 rfl rfl rfl rfl rfl
theorem dX2_standsInAnother_12 : decode cX2_standsInAnother 12 = .ok (.iload_n 2, 1) := dqr0 dqK_28 dqw_cX2_standsInAnother_0 12 rfl rfl
theorem dX2_standsInAnother_13 : decode cX2_standsInAnother 13 = .ok (.iaload, 1) := dqr0 dqK_46 dqw_cX2_standsInAnother_0 13 rfl rfl
theorem dX2_standsInAnother_14 : decode cX2_standsInAnother 14 = .ok (.iload_n 1, 1) := dqr0 dqK_27 dqw_cX2_standsInAnother_0 14 rfl rfl
theorem dX2_standsInAnother_15 : decode cX2_standsInAnother 15 = .ok (.ishr, 1) := dqr0 dqK_122 dqw_cX2_standsInAnother_0 15 rfl rfl
theorem dX2_standsInAnother_16 : decode cX2_standsInAnother 16 = .ok (.iconst 1, 1) := dqr0 dqK_4 dqw_cX2_standsInAnother_0 16 rfl rfl
theorem dX2_standsInAnother_17 : decode cX2_standsInAnother 17 = .ok (.iand, 1) := dqr0 dqK_126 dqw_cX2_standsInAnother_0 17 rfl rfl
theorem dX2_standsInAnother_18 : decode cX2_standsInAnother 18 = .ok (.iconst 1, 1) := dqr0 dqK_4 dqw_cX2_standsInAnother_0 18 rfl rfl
theorem dX2_standsInAnother_19 : decode cX2_standsInAnother 19 = .ok (.if_icmp .ne 5, 3) := dqrs2 dqK_160 dqw_cX2_standsInAnother_0 19 rfl rfl rfl rfl (by decide)
theorem dX2_standsInAnother_22 : decode cX2_standsInAnother 22 = .ok (.iconst 1, 1) := dqr0 dqK_4 dqw_cX2_standsInAnother_0 22 rfl rfl
theorem dX2_standsInAnother_23 : decode cX2_standsInAnother 23 = .ok (.ireturn, 1) := dqr0 dqK_172 dqw_cX2_standsInAnother_0 23 rfl rfl
theorem dqw_cX2_standsInAnother_24 : dqLF cX2_standsInAnother 24 [132, 2, 1, 167, 255, 231, 3, 172] := by decide +kernel
theorem dX2_standsInAnother_24 : decode cX2_standsInAnother 24 = .ok (.iinc 2 1, 3) := dqri dqK_132 dqw_cX2_standsInAnother_24 0 rfl rfl rfl rfl (by decide)
theorem dX2_standsInAnother_27 : decode cX2_standsInAnother 27 = .ok (.goto (-25), 3) := dqrs2 dqK_167 dqw_cX2_standsInAnother_24 3 rfl rfl rfl rfl (by decide)
theorem dX2_standsInAnother_30 : decode cX2_standsInAnother 30 = .ok (.iconst 0, 1) := dqr0 dqK_3 dqw_cX2_standsInAnother_24 6 rfl rfl
theorem dX2_standsInAnother_31 : decode cX2_standsInAnother 31 = .ok (.ireturn, 1) := dqr0 dqK_172 dqw_cX2_standsInAnother_24 7 rfl rfl
theorem dqw_cX2_keep_0 : dqLF cX2_keep 0 [42, 180, 0, 9, 3, 42, 180, 0, 32, 27, 16, 60, 104, 42, 180, 0, 15, 184, 0, 96, 42, 180, 0, 19] := by decide +kernel
theorem dX2_keep_0 : decode cX2_keep 0 = .ok (.aload_n 0, 1) := dqr0 dqK_42 dqw_cX2_keep_0 0 rfl rfl
theorem dX2_keep_1 : decode cX2_keep 1 = .ok (.getfield 9, 3) := dqr2 dqK_180 dqw_cX2_keep_0 1 rfl rfl rfl rfl rfl
theorem dX2_keep_4 : decode cX2_keep 4 = .ok (.iconst 0, 1) := dqr0 dqK_3 dqw_cX2_keep_0 4 rfl rfl
theorem dX2_keep_5 : decode cX2_keep 5 = .ok (.aload_n 0, 1) := dqr0 dqK_42 dqw_cX2_keep_0 5 rfl rfl
theorem dX2_keep_6 : decode cX2_keep 6 = .ok (.getfield 32, 3) := dqr2 dqK_180 dqw_cX2_keep_0 6 rfl rfl rfl rfl rfl
theorem dX2_keep_9 : decode cX2_keep 9 = .ok (.iload_n 1, 1) := dqr0 dqK_27 dqw_cX2_keep_0 9 rfl rfl
theorem dX2_keep_10 : decode cX2_keep 10 = .ok (.bipush 60, 2) := dqrs1 dqK_16 dqw_cX2_keep_0 10 rfl rfl rfl (by decide)
theorem dX2_keep_12 : decode cX2_keep 12 = .ok (.imul, 1) := dqr0 dqK_104 dqw_cX2_keep_0 12 rfl rfl
theorem dX2_keep_13 : decode cX2_keep 13 = .ok (.aload_n 0, 1) := dqr0 dqK_42 dqw_cX2_keep_0 13 rfl rfl
theorem dX2_keep_14 : decode cX2_keep 14 = .ok (.getfield 15, 3) := dqr2 dqK_180 dqw_cX2_keep_0 14 rfl rfl rfl rfl rfl
theorem dX2_keep_17 : decode cX2_keep 17 = .ok (.invokestatic 96, 3) := dqr2 dqK_184 dqw_cX2_keep_0 17 rfl rfl rfl rfl rfl
theorem dX2_keep_20 : decode cX2_keep 20 = .ok (.aload_n 0, 1) := dqr0 dqK_42 dqw_cX2_keep_0 20 rfl rfl
theorem dX2_keep_21 : decode cX2_keep 21 = .ok (.getfield 19, 3) := dqr2 dqK_180 dqw_cX2_keep_0 21 rfl rfl rfl rfl rfl
theorem dqw_cX2_keep_24 : dqLF cX2_keep 24 [3, 42, 180, 0, 35, 27, 16, 60, 104, 42, 180, 0, 15, 184, 0, 96, 42, 180, 0, 38, 27, 42] := by decide +kernel
theorem dX2_keep_24 : decode cX2_keep 24 = .ok (.iconst 0, 1) := dqr0 dqK_3 dqw_cX2_keep_24 0 rfl rfl
theorem dX2_keep_25 : decode cX2_keep 25 = .ok (.aload_n 0, 1) := dqr0 dqK_42 dqw_cX2_keep_24 1 rfl rfl
theorem dX2_keep_26 : decode cX2_keep 26 = .ok (.getfield 35, 3) := dqr2 dqK_180 dqw_cX2_keep_24 2 rfl rfl rfl rfl rfl
theorem dX2_keep_29 : decode cX2_keep 29 = .ok (.iload_n 1, 1) := dqr0 dqK_27 dqw_cX2_keep_24 5 rfl rfl
theorem dX2_keep_30 : decode cX2_keep 30 = .ok (.bipush 60, 2) := dqrs1 dqK_16 dqw_cX2_keep_24 6 rfl rfl rfl (by decide)
theorem dX2_keep_32 : decode cX2_keep 32 = .ok (.imul, 1) := dqr0 dqK_104 dqw_cX2_keep_24 8 rfl rfl
theorem dX2_keep_33 : decode cX2_keep 33 = .ok (.aload_n 0, 1) := dqr0 dqK_42 dqw_cX2_keep_24 9 rfl rfl
theorem dX2_keep_34 : decode cX2_keep 34 = .ok (.getfield 15, 3) := dqr2 dqK_180 dqw_cX2_keep_24 10 rfl rfl rfl rfl rfl
theorem dX2_keep_37 : decode cX2_keep 37 = .ok (.invokestatic 96, 3) := dqr2 dqK_184 dqw_cX2_keep_24 13 rfl rfl rfl rfl rfl
theorem dX2_keep_40 : decode cX2_keep 40 = .ok (.aload_n 0, 1) := dqr0 dqK_42 dqw_cX2_keep_24 16 rfl rfl
theorem dX2_keep_41 : decode cX2_keep 41 = .ok (.getfield 38, 3) := dqr2 dqK_180 dqw_cX2_keep_24 17 rfl rfl rfl rfl rfl
theorem dX2_keep_44 : decode cX2_keep 44 = .ok (.iload_n 1, 1) := dqr0 dqK_27 dqw_cX2_keep_24 20 rfl rfl
theorem dX2_keep_45 : decode cX2_keep 45 = .ok (.aload_n 0, 1) := dqr0 dqK_42 dqw_cX2_keep_24 21 rfl rfl
theorem dqw_cX2_keep_46 : dqLF cX2_keep 46 [180, 0, 15, 79, 42, 180, 0, 41, 27, 3, 79, 5, 61, 28, 42, 180, 0, 15, 162, 0, 41, 42] := by decide +kernel
theorem dX2_keep_46 : decode cX2_keep 46 = .ok (.getfield 15, 3) := dqr2 dqK_180 dqw_cX2_keep_46 0 rfl rfl rfl rfl rfl
theorem dX2_keep_49 : decode cX2_keep 49 = .ok (.iastore, 1) := dqr0 dqK_79 dqw_cX2_keep_46 3 rfl rfl
theorem dX2_keep_50 : decode cX2_keep 50 = .ok (.aload_n 0, 1) := dqr0 dqK_42 dqw_cX2_keep_46 4 rfl rfl
theorem dX2_keep_51 : decode cX2_keep 51 = .ok (.getfield 41, 3) := dqr2 dqK_180 dqw_cX2_keep_46 5 rfl rfl rfl rfl rfl
theorem dX2_keep_54 : decode cX2_keep 54 = .ok (.iload_n 1, 1) := dqr0 dqK_27 dqw_cX2_keep_46 8 rfl rfl
theorem dX2_keep_55 : decode cX2_keep 55 = .ok (.iconst 0, 1) := dqr0 dqK_3 dqw_cX2_keep_46 9 rfl rfl
theorem dX2_keep_56 : decode cX2_keep 56 = .ok (.iastore, 1) := dqr0 dqK_79 dqw_cX2_keep_46 10 rfl rfl
theorem dX2_keep_57 : decode cX2_keep 57 = .ok (.iconst 2, 1) := dqr0 dqK_5 dqw_cX2_keep_46 11 rfl rfl
theorem dX2_keep_58 : decode cX2_keep 58 = .ok (.istore_n 2, 1) := dqr0 dqK_61 dqw_cX2_keep_46 12 rfl rfl
theorem dX2_keep_59 : decode cX2_keep 59 = .ok (.iload_n 2, 1) := dqr0 dqK_28 dqw_cX2_keep_46 13 rfl rfl
theorem dX2_keep_60 : decode cX2_keep 60 = .ok (.aload_n 0, 1) := dqr0 dqK_42 dqw_cX2_keep_46 14 rfl rfl
theorem dX2_keep_61 : decode cX2_keep 61 = .ok (.getfield 15, 3) := dqr2 dqK_180 dqw_cX2_keep_46 15 rfl rfl rfl rfl rfl
theorem dX2_keep_64 : decode cX2_keep 64 = .ok (.if_icmp .ge 41, 3) := dqrs2 dqK_162 dqw_cX2_keep_46 18 rfl rfl rfl rfl (by decide)
theorem dX2_keep_67 : decode cX2_keep 67 = .ok (.aload_n 0, 1) := dqr0 dqK_42 dqw_cX2_keep_46 21 rfl rfl
theorem dqw_cX2_keep_68 : dqLF cX2_keep 68 [180, 0, 9, 28, 46, 184, 0, 77, 153, 0, 23, 42, 180, 0, 41, 27, 92, 46, 4, 42, 180, 0, 9, 28] := by decide +kernel
theorem dX2_keep_68 : decode cX2_keep 68 = .ok (.getfield 9, 3) := dqr2 dqK_180 dqw_cX2_keep_68 0 rfl rfl rfl rfl rfl
theorem dX2_keep_71 : decode cX2_keep 71 = .ok (.iload_n 2, 1) := dqr0 dqK_28 dqw_cX2_keep_68 3 rfl rfl
theorem dX2_keep_72 : decode cX2_keep 72 = .ok (.iaload, 1) := dqr0 dqK_46 dqw_cX2_keep_68 4 rfl rfl
theorem dX2_keep_73 : decode cX2_keep 73 = .ok (.invokestatic 77, 3) := dqr2 dqK_184 dqw_cX2_keep_68 5 rfl rfl rfl rfl rfl
theorem dX2_keep_76 : decode cX2_keep 76 = .ok (.ifCond .eq 23, 3) := dqrs2 dqK_153 dqw_cX2_keep_68 8 rfl rfl rfl rfl (by decide)
theorem dX2_keep_79 : decode cX2_keep 79 = .ok (.aload_n 0, 1) := dqr0 dqK_42 dqw_cX2_keep_68 11 rfl rfl
theorem dX2_keep_80 : decode cX2_keep 80 = .ok (.getfield 41, 3) := dqr2 dqK_180 dqw_cX2_keep_68 12 rfl rfl rfl rfl rfl
theorem dX2_keep_83 : decode cX2_keep 83 = .ok (.iload_n 1, 1) := dqr0 dqK_27 dqw_cX2_keep_68 15 rfl rfl
theorem dX2_keep_84 : decode cX2_keep 84 = .ok (.dup2, 1) := dqr0 dqK_92 dqw_cX2_keep_68 16 rfl rfl
theorem dX2_keep_85 : decode cX2_keep 85 = .ok (.iaload, 1) := dqr0 dqK_46 dqw_cX2_keep_68 17 rfl rfl
theorem dX2_keep_86 : decode cX2_keep 86 = .ok (.iconst 1, 1) := dqr0 dqK_4 dqw_cX2_keep_68 18 rfl rfl
theorem dX2_keep_87 : decode cX2_keep 87 = .ok (.aload_n 0, 1) := dqr0 dqK_42 dqw_cX2_keep_68 19 rfl rfl
theorem dX2_keep_88 : decode cX2_keep 88 = .ok (.getfield 9, 3) := dqr2 dqK_180 dqw_cX2_keep_68 20 rfl rfl rfl rfl rfl
theorem dX2_keep_91 : decode cX2_keep 91 = .ok (.iload_n 2, 1) := dqr0 dqK_28 dqw_cX2_keep_68 23 rfl rfl
theorem dqw_cX2_keep_92 : dqLF cX2_keep 92 [46, 16, 65, 100, 120, 128, 79, 132, 2, 1, 167, 255, 213, 42, 27, 182, 0, 102, 177] := by decide +kernel
theorem dX2_keep_92 : decode cX2_keep 92 = .ok (.iaload, 1) := dqr0 dqK_46 dqw_cX2_keep_92 0 rfl rfl
theorem dX2_keep_93 : decode cX2_keep 93 = .ok (.bipush 65, 2) := dqrs1 dqK_16 dqw_cX2_keep_92 1 rfl rfl rfl (by decide)
theorem dX2_keep_95 : decode cX2_keep 95 = .ok (.isub, 1) := dqr0 dqK_100 dqw_cX2_keep_92 3 rfl rfl
theorem dX2_keep_96 : decode cX2_keep 96 = .ok (.ishl, 1) := dqr0 dqK_120 dqw_cX2_keep_92 4 rfl rfl
theorem dX2_keep_97 : decode cX2_keep 97 = .ok (.ior, 1) := dqr0 dqK_128 dqw_cX2_keep_92 5 rfl rfl
theorem dX2_keep_98 : decode cX2_keep 98 = .ok (.iastore, 1) := dqr0 dqK_79 dqw_cX2_keep_92 6 rfl rfl
theorem dX2_keep_99 : decode cX2_keep 99 = .ok (.iinc 2 1, 3) := dqri dqK_132 dqw_cX2_keep_92 7 rfl rfl rfl rfl (by decide)
theorem dX2_keep_102 : decode cX2_keep 102 = .ok (.goto (-43), 3) := dqrs2 dqK_167 dqw_cX2_keep_92 10 rfl rfl rfl rfl (by decide)
theorem dX2_keep_105 : decode cX2_keep 105 = .ok (.aload_n 0, 1) := dqr0 dqK_42 dqw_cX2_keep_92 13 rfl rfl
theorem dX2_keep_106 : decode cX2_keep 106 = .ok (.iload_n 1, 1) := dqr0 dqK_27 dqw_cX2_keep_92 14 rfl rfl
theorem dX2_keep_107 : decode cX2_keep 107 = .ok (.invokevirtual 102, 3) := dqr2 dqK_182 dqw_cX2_keep_92 15 rfl rfl rfl rfl rfl
theorem dX2_keep_110 : decode cX2_keep 110 = .ok (.return_, 1) := dqr0 dqK_177 dqw_cX2_keep_92 18 rfl rfl
theorem dqw_cX2_putLast_0 : dqLF cX2_putLast 0 [3, 61, 3, 62, 29, 42, 180, 0, 47, 162, 0, 34, 42, 180, 0, 44, 29, 46, 27, 159, 0, 18, 42] := by decide +kernel
theorem dX2_putLast_0 : decode cX2_putLast 0 = .ok (.iconst 0, 1) := dqr0 dqK_3 dqw_cX2_putLast_0 0 rfl rfl
theorem dX2_putLast_1 : decode cX2_putLast 1 = .ok (.istore_n 2, 1) := dqr0 dqK_61 dqw_cX2_putLast_0 1 rfl rfl
theorem dX2_putLast_2 : decode cX2_putLast 2 = .ok (.iconst 0, 1) := dqr0 dqK_3 dqw_cX2_putLast_0 2 rfl rfl
theorem dX2_putLast_3 : decode cX2_putLast 3 = .ok (.istore_n 3, 1) := dqr0 dqK_62 dqw_cX2_putLast_0 3 rfl rfl
theorem dX2_putLast_4 : decode cX2_putLast 4 = .ok (.iload_n 3, 1) := dqr0 dqK_29 dqw_cX2_putLast_0 4 rfl rfl
theorem dX2_putLast_5 : decode cX2_putLast 5 = .ok (.aload_n 0, 1) := dqr0 dqK_42 dqw_cX2_putLast_0 5 rfl rfl
theorem dX2_putLast_6 : decode cX2_putLast 6 = .ok (.getfield 47, 3) := dqr2 dqK_180 dqw_cX2_putLast_0 6 rfl rfl rfl rfl rfl
theorem dX2_putLast_9 : decode cX2_putLast 9 = .ok (.if_icmp .ge 34, 3) := dqrs2 dqK_162 dqw_cX2_putLast_0 9 rfl rfl rfl rfl (by decide)
theorem dX2_putLast_12 : decode cX2_putLast 12 = .ok (.aload_n 0, 1) := dqr0 dqK_42 dqw_cX2_putLast_0 12 rfl rfl
theorem dX2_putLast_13 : decode cX2_putLast 13 = .ok (.getfield 44, 3) := dqr2 dqK_180 dqw_cX2_putLast_0 13 rfl rfl rfl rfl rfl
theorem dX2_putLast_16 : decode cX2_putLast 16 = .ok (.iload_n 3, 1) := dqr0 dqK_29 dqw_cX2_putLast_0 16 rfl rfl
theorem dX2_putLast_17 : decode cX2_putLast 17 = .ok (.iaload, 1) := dqr0 dqK_46 dqw_cX2_putLast_0 17 rfl rfl
theorem dX2_putLast_18 : decode cX2_putLast 18 = .ok (.iload_n 1, 1) := dqr0 dqK_27 dqw_cX2_putLast_0 18 rfl rfl
theorem dX2_putLast_19 : decode cX2_putLast 19 = .ok (.if_icmp .eq 18, 3) := dqrs2 dqK_159 dqw_cX2_putLast_0 19 rfl rfl rfl rfl (by decide)
theorem dX2_putLast_22 : decode cX2_putLast 22 = .ok (.aload_n 0, 1) := dqr0 dqK_42 dqw_cX2_putLast_0 22 rfl rfl
theorem dqw_cX2_putLast_23 : dqLF cX2_putLast 23 [180, 0, 44, 28, 42, 180, 0, 44, 29, 46, 79, 132, 2, 1, 132, 3, 1, 167, 255, 220, 28, 16, 8] := by decide +kernel
theorem dX2_putLast_23 : decode cX2_putLast 23 = .ok (.getfield 44, 3) := dqr2 dqK_180 dqw_cX2_putLast_23 0 rfl rfl rfl rfl rfl
theorem dX2_putLast_26 : decode cX2_putLast 26 = .ok (.iload_n 2, 1) := dqr0 dqK_28 dqw_cX2_putLast_23 3 rfl rfl
theorem dX2_putLast_27 : decode cX2_putLast 27 = .ok (.aload_n 0, 1) := dqr0 dqK_42 dqw_cX2_putLast_23 4 rfl rfl
theorem dX2_putLast_28 : decode cX2_putLast 28 = .ok (.getfield 44, 3) := dqr2 dqK_180 dqw_cX2_putLast_23 5 rfl rfl rfl rfl rfl
theorem dX2_putLast_31 : decode cX2_putLast 31 = .ok (.iload_n 3, 1) := dqr0 dqK_29 dqw_cX2_putLast_23 8 rfl rfl
theorem dX2_putLast_32 : decode cX2_putLast 32 = .ok (.iaload, 1) := dqr0 dqK_46 dqw_cX2_putLast_23 9 rfl rfl
theorem dX2_putLast_33 : decode cX2_putLast 33 = .ok (.iastore, 1) := dqr0 dqK_79 dqw_cX2_putLast_23 10 rfl rfl
theorem dX2_putLast_34 : decode cX2_putLast 34 = .ok (.iinc 2 1, 3) := dqri dqK_132 dqw_cX2_putLast_23 11 rfl rfl rfl rfl (by decide)
theorem dX2_putLast_37 : decode cX2_putLast 37 = .ok (.iinc 3 1, 3) := dqri dqK_132 dqw_cX2_putLast_23 14 rfl rfl rfl rfl (by decide)
theorem dX2_putLast_40 : decode cX2_putLast 40 = .ok (.goto (-36), 3) := dqrs2 dqK_167 dqw_cX2_putLast_23 17 rfl rfl rfl rfl (by decide)
theorem dX2_putLast_43 : decode cX2_putLast 43 = .ok (.iload_n 2, 1) := dqr0 dqK_28 dqw_cX2_putLast_23 20 rfl rfl
theorem dX2_putLast_44 : decode cX2_putLast 44 = .ok (.bipush 8, 2) := dqrs1 dqK_16 dqw_cX2_putLast_23 21 rfl rfl rfl (by decide)
theorem dqw_cX2_putLast_46 : dqLF cX2_putLast 46 [162, 0, 17, 42, 180, 0, 44, 28, 27, 79, 42, 28, 4, 96, 181, 0, 47, 177] := by decide +kernel
theorem dX2_putLast_46 : decode cX2_putLast 46 = .ok (.if_icmp .ge 17, 3) := dqrs2 dqK_162 dqw_cX2_putLast_46 0 rfl rfl rfl rfl (by decide)
theorem dX2_putLast_49 : decode cX2_putLast 49 = .ok (.aload_n 0, 1) := dqr0 dqK_42 dqw_cX2_putLast_46 3 rfl rfl
theorem dX2_putLast_50 : decode cX2_putLast 50 = .ok (.getfield 44, 3) := dqr2 dqK_180 dqw_cX2_putLast_46 4 rfl rfl rfl rfl rfl
theorem dX2_putLast_53 : decode cX2_putLast 53 = .ok (.iload_n 2, 1) := dqr0 dqK_28 dqw_cX2_putLast_46 7 rfl rfl
theorem dX2_putLast_54 : decode cX2_putLast 54 = .ok (.iload_n 1, 1) := dqr0 dqK_27 dqw_cX2_putLast_46 8 rfl rfl
theorem dX2_putLast_55 : decode cX2_putLast 55 = .ok (.iastore, 1) := dqr0 dqK_79 dqw_cX2_putLast_46 9 rfl rfl
theorem dX2_putLast_56 : decode cX2_putLast 56 = .ok (.aload_n 0, 1) := dqr0 dqK_42 dqw_cX2_putLast_46 10 rfl rfl
theorem dX2_putLast_57 : decode cX2_putLast 57 = .ok (.iload_n 2, 1) := dqr0 dqK_28 dqw_cX2_putLast_46 11 rfl rfl
theorem dX2_putLast_58 : decode cX2_putLast 58 = .ok (.iconst 1, 1) := dqr0 dqK_4 dqw_cX2_putLast_46 12 rfl rfl
theorem dX2_putLast_59 : decode cX2_putLast 59 = .ok (.iadd, 1) := dqr0 dqK_96 dqw_cX2_putLast_46 13 rfl rfl
theorem dX2_putLast_60 : decode cX2_putLast 60 = .ok (.putfield 47, 3) := dqr2 dqK_181 dqw_cX2_putLast_46 14 rfl rfl rfl rfl rfl
theorem dX2_putLast_63 : decode cX2_putLast 63 = .ok (.return_, 1) := dqr0 dqK_177 dqw_cX2_putLast_46 17 rfl rfl
theorem dqw_cX2_within_0 : dqLF cX2_within 0 [4, 27, 120, 61, 42, 180, 0, 47, 4, 100, 62, 29, 155, 0, 37, 28, 42, 180, 0, 44, 29, 46, 122, 4] := by decide +kernel
theorem dX2_within_0 : decode cX2_within 0 = .ok (.iconst 1, 1) := dqr0 dqK_4 dqw_cX2_within_0 0 rfl rfl
theorem dX2_within_1 : decode cX2_within 1 = .ok (.iload_n 1, 1) := dqr0 dqK_27 dqw_cX2_within_0 1 rfl rfl
theorem dX2_within_2 : decode cX2_within 2 = .ok (.ishl, 1) := dqr0 dqK_120 dqw_cX2_within_0 2 rfl rfl
theorem dX2_within_3 : decode cX2_within 3 = .ok (.istore_n 2, 1) := dqr0 dqK_61 dqw_cX2_within_0 3 rfl rfl
theorem dX2_within_4 : decode cX2_within 4 = .ok (.aload_n 0, 1) := dqr0 dqK_42 dqw_cX2_within_0 4 rfl rfl
theorem dX2_within_5 : decode cX2_within 5 = .ok (.getfield 47, 3) := dqr2 dqK_180 dqw_cX2_within_0 5 rfl rfl rfl rfl rfl
theorem dX2_within_8 : decode cX2_within 8 = .ok (.iconst 1, 1) := dqr0 dqK_4 dqw_cX2_within_0 8 rfl rfl
theorem dX2_within_9 : decode cX2_within 9 = .ok (.isub, 1) := dqr0 dqK_100 dqw_cX2_within_0 9 rfl rfl
theorem dX2_within_10 : decode cX2_within 10 = .ok (.istore_n 3, 1) := dqr0 dqK_62 dqw_cX2_within_0 10 rfl rfl
theorem dX2_within_11 : decode cX2_within 11 = .ok (.iload_n 3, 1) := dqr0 dqK_29 dqw_cX2_within_0 11 rfl rfl
theorem dX2_within_12 : decode cX2_within 12 = .ok (.ifCond .lt 37, 3) := dqrs2 dqK_155 dqw_cX2_within_0 12 rfl rfl rfl rfl (by decide)
theorem dX2_within_15 : decode cX2_within 15 = .ok (.iload_n 2, 1) := dqr0 dqK_28 dqw_cX2_within_0 15 rfl rfl
theorem dX2_within_16 : decode cX2_within 16 = .ok (.aload_n 0, 1) := dqr0 dqK_42 dqw_cX2_within_0 16 rfl rfl
theorem dX2_within_17 : decode cX2_within 17 = .ok (.getfield 44, 3) := dqr2 dqK_180 dqw_cX2_within_0 17 rfl rfl rfl rfl rfl
theorem dX2_within_20 : decode cX2_within 20 = .ok (.iload_n 3, 1) := dqr0 dqK_29 dqw_cX2_within_0 20 rfl rfl
theorem dX2_within_21 : decode cX2_within 21 = .ok (.iaload, 1) := dqr0 dqK_46 dqw_cX2_within_0 21 rfl rfl
theorem dX2_within_22 : decode cX2_within 22 = .ok (.ishr, 1) := dqr0 dqK_122 dqw_cX2_within_0 22 rfl rfl
theorem dX2_within_23 : decode cX2_within 23 = .ok (.iconst 1, 1) := dqr0 dqK_4 dqw_cX2_within_0 23 rfl rfl
theorem dqw_cX2_within_24 : dqLF cX2_within 24 [126, 4, 160, 0, 17, 28, 42, 180, 0, 41, 42, 180, 0, 44, 29, 46, 46, 128, 61, 132, 3, 255] := by decide +kernel
theorem dX2_within_24 : decode cX2_within 24 = .ok (.iand, 1) := dqr0 dqK_126 dqw_cX2_within_24 0 rfl rfl
theorem dX2_within_25 : decode cX2_within 25 = .ok (.iconst 1, 1) := dqr0 dqK_4 dqw_cX2_within_24 1 rfl rfl
theorem dX2_within_26 : decode cX2_within 26 = .ok (.if_icmp .ne 17, 3) := dqrs2 dqK_160 dqw_cX2_within_24 2 rfl rfl rfl rfl (by decide)
theorem dX2_within_29 : decode cX2_within 29 = .ok (.iload_n 2, 1) := dqr0 dqK_28 dqw_cX2_within_24 5 rfl rfl
theorem dX2_within_30 : decode cX2_within 30 = .ok (.aload_n 0, 1) := dqr0 dqK_42 dqw_cX2_within_24 6 rfl rfl
theorem dX2_within_31 : decode cX2_within 31 = .ok (.getfield 41, 3) := dqr2 dqK_180 dqw_cX2_within_24 7 rfl rfl rfl rfl rfl
theorem dX2_within_34 : decode cX2_within 34 = .ok (.aload_n 0, 1) := dqr0 dqK_42 dqw_cX2_within_24 10 rfl rfl
theorem dX2_within_35 : decode cX2_within 35 = .ok (.getfield 44, 3) := dqr2 dqK_180 dqw_cX2_within_24 11 rfl rfl rfl rfl rfl
theorem dX2_within_38 : decode cX2_within 38 = .ok (.iload_n 3, 1) := dqr0 dqK_29 dqw_cX2_within_24 14 rfl rfl
theorem dX2_within_39 : decode cX2_within 39 = .ok (.iaload, 1) := dqr0 dqK_46 dqw_cX2_within_24 15 rfl rfl
theorem dX2_within_40 : decode cX2_within 40 = .ok (.iaload, 1) := dqr0 dqK_46 dqw_cX2_within_24 16 rfl rfl
theorem dX2_within_41 : decode cX2_within 41 = .ok (.ior, 1) := dqr0 dqK_128 dqw_cX2_within_24 17 rfl rfl
theorem dX2_within_42 : decode cX2_within 42 = .ok (.istore_n 2, 1) := dqr0 dqK_61 dqw_cX2_within_24 18 rfl rfl
theorem dX2_within_43 : decode cX2_within 43 = .ok (.iinc 3 (-1), 3) := dqri dqK_132 dqw_cX2_within_24 19 rfl rfl rfl rfl (by decide)
theorem dqw_cX2_within_46 : dqLF cX2_within 46 [167, 255, 221, 28, 172] := by decide +kernel
theorem dX2_within_46 : decode cX2_within 46 = .ok (.goto (-35), 3) := dqrs2 dqK_167 dqw_cX2_within_46 0 rfl rfl rfl rfl (by decide)
theorem dX2_within_49 : decode cX2_within 49 = .ok (.iload_n 2, 1) := dqr0 dqK_28 dqw_cX2_within_46 3 rfl rfl
theorem dX2_within_50 : decode cX2_within 50 = .ok (.ireturn, 1) := dqr0 dqK_172 dqw_cX2_within_46 4 rfl rfl
theorem dqw_cX3_init_0 : dqLF cX3_init 0 [42, 183, 0, 3, 42, 16, 12] := by decide +kernel
theorem dX3_init_0 : decode cX3_init 0 = .ok (.aload_n 0, 1) := dqr0 dqK_42 dqw_cX3_init_0 0 rfl rfl
theorem dX3_init_1 : decode cX3_init 1 = .ok (.invokespecial 3, 3) := dqr2 dqK_183 dqw_cX3_init_0 1 rfl rfl rfl rfl rfl
theorem dX3_init_4 : decode cX3_init 4 = .ok (.aload_n 0, 1) := dqr0 dqK_42 dqw_cX3_init_0 4 rfl rfl
theorem dX3_init_5 : decode cX3_init 5 = .ok (.bipush 12, 2) := dqrs1 dqK_16 dqw_cX3_init_0 5 rfl rfl rfl (by decide)
theorem dX3_init_7 : decode cX3_init 7 = .ok (.newarray .int, 2) := by decide +kernel
theorem dqw_cX3_init_9 : dqLF cX3_init 9 [181, 0, 9, 42, 16, 12] := by decide +kernel
theorem dX3_init_9 : decode cX3_init 9 = .ok (.putfield 9, 3) := dqr2 dqK_181 dqw_cX3_init_9 0 rfl rfl rfl rfl rfl
theorem dX3_init_12 : decode cX3_init 12 = .ok (.aload_n 0, 1) := dqr0 dqK_42 dqw_cX3_init_9 3 rfl rfl
theorem dX3_init_13 : decode cX3_init 13 = .ok (.bipush 12, 2) := dqrs1 dqK_16 dqw_cX3_init_9 4 rfl rfl rfl (by decide)
theorem dX3_init_15 : decode cX3_init 15 = .ok (.newarray .int, 2) := by decide +kernel
theorem dqw_cX3_init_17 : dqLF cX3_init 17 [181, 0, 15, 42, 16, 12] := by decide +kernel
theorem dX3_init_17 : decode cX3_init 17 = .ok (.putfield 15, 3) := dqr2 dqK_181 dqw_cX3_init_17 0 rfl rfl rfl rfl rfl
theorem dX3_init_20 : decode cX3_init 20 = .ok (.aload_n 0, 1) := dqr0 dqK_42 dqw_cX3_init_17 3 rfl rfl
theorem dX3_init_21 : decode cX3_init 21 = .ok (.bipush 12, 2) := dqrs1 dqK_16 dqw_cX3_init_17 4 rfl rfl rfl (by decide)
theorem dX3_init_23 : decode cX3_init 23 = .ok (.newarray .int, 2) := by decide +kernel
theorem dqw_cX3_init_25 : dqLF cX3_init 25 [181, 0, 18, 42, 16, 12] := by decide +kernel
theorem dX3_init_25 : decode cX3_init 25 = .ok (.putfield 18, 3) := dqr2 dqK_181 dqw_cX3_init_25 0 rfl rfl rfl rfl rfl
theorem dX3_init_28 : decode cX3_init 28 = .ok (.aload_n 0, 1) := dqr0 dqK_42 dqw_cX3_init_25 3 rfl rfl
theorem dX3_init_29 : decode cX3_init 29 = .ok (.bipush 12, 2) := dqrs1 dqK_16 dqw_cX3_init_25 4 rfl rfl rfl (by decide)
theorem dX3_init_31 : decode cX3_init 31 = .ok (.newarray .int, 2) := by decide +kernel
theorem dqw_cX3_init_33 : dqLF cX3_init 33 [181, 0, 21, 42, 17, 1, 32] := by decide +kernel
theorem dX3_init_33 : decode cX3_init 33 = .ok (.putfield 21, 3) := dqr2 dqK_181 dqw_cX3_init_33 0 rfl rfl rfl rfl rfl
theorem dX3_init_36 : decode cX3_init 36 = .ok (.aload_n 0, 1) := dqr0 dqK_42 dqw_cX3_init_33 3 rfl rfl
theorem dX3_init_37 : decode cX3_init 37 = .ok (.sipush 288, 3) := dqrs2 dqK_17 dqw_cX3_init_33 4 rfl rfl rfl rfl (by decide)
theorem dX3_init_40 : decode cX3_init 40 = .ok (.newarray .int, 2) := by decide +kernel
theorem dqw_cX3_init_42 : dqLF cX3_init 42 [181, 0, 24, 42, 3, 181, 0, 27, 177] := by decide +kernel
theorem dX3_init_42 : decode cX3_init 42 = .ok (.putfield 24, 3) := dqr2 dqK_181 dqw_cX3_init_42 0 rfl rfl rfl rfl rfl
theorem dX3_init_45 : decode cX3_init 45 = .ok (.aload_n 0, 1) := dqr0 dqK_42 dqw_cX3_init_42 3 rfl rfl
theorem dX3_init_46 : decode cX3_init 46 = .ok (.iconst 0, 1) := dqr0 dqK_3 dqw_cX3_init_42 4 rfl rfl
theorem dX3_init_47 : decode cX3_init 47 = .ok (.putfield 27, 3) := dqr2 dqK_181 dqw_cX3_init_42 5 rfl rfl rfl rfl rfl
theorem dX3_init_50 : decode cX3_init 50 = .ok (.return_, 1) := dqr0 dqK_177 dqw_cX3_init_42 8 rfl rfl
theorem dqw_cX3_isRecording_0 : dqLF cX3_isRecording 0 [27, 155, 0, 15, 27, 42, 180, 0, 27, 162, 0, 7, 4, 167, 0, 4, 3, 172] := by decide +kernel
theorem dX3_isRecording_0 : decode cX3_isRecording 0 = .ok (.iload_n 1, 1) := dqr0 dqK_27 dqw_cX3_isRecording_0 0 rfl rfl
theorem dX3_isRecording_1 : decode cX3_isRecording 1 = .ok (.ifCond .lt 15, 3) := dqrs2 dqK_155 dqw_cX3_isRecording_0 1 rfl rfl rfl rfl (by decide)
theorem dX3_isRecording_4 : decode cX3_isRecording 4 = .ok (.iload_n 1, 1) := dqr0 dqK_27 dqw_cX3_isRecording_0 4 rfl rfl
theorem dX3_isRecording_5 : decode cX3_isRecording 5 = .ok (.aload_n 0, 1) := dqr0 dqK_42 dqw_cX3_isRecording_0 5 rfl rfl
theorem dX3_isRecording_6 : decode cX3_isRecording 6 = .ok (.getfield 27, 3) := dqr2 dqK_180 dqw_cX3_isRecording_0 6 rfl rfl rfl rfl rfl
theorem dX3_isRecording_9 : decode cX3_isRecording 9 = .ok (.if_icmp .ge 7, 3) := dqrs2 dqK_162 dqw_cX3_isRecording_0 9 rfl rfl rfl rfl (by decide)
theorem dX3_isRecording_12 : decode cX3_isRecording 12 = .ok (.iconst 1, 1) := dqr0 dqK_4 dqw_cX3_isRecording_0 12 rfl rfl
theorem dX3_isRecording_13 : decode cX3_isRecording 13 = .ok (.goto 4, 3) := dqrs2 dqK_167 dqw_cX3_isRecording_0 13 rfl rfl rfl rfl (by decide)
theorem dX3_isRecording_16 : decode cX3_isRecording 16 = .ok (.iconst 0, 1) := dqr0 dqK_3 dqw_cX3_isRecording_0 16 rfl rfl
theorem dX3_isRecording_17 : decode cX3_isRecording 17 = .ok (.ireturn, 1) := dqr0 dqK_172 dqw_cX3_isRecording_0 17 rfl rfl
theorem dqw_cX3_addRecording_0 : dqLF cX3_addRecording 0 [42, 180, 0, 9, 42, 180, 0, 27, 27, 79, 42, 180, 0, 15, 42, 180, 0, 27, 28, 79, 42, 180, 0, 18] := by decide +kernel
theorem dX3_addRecording_0 : decode cX3_addRecording 0 = .ok (.aload_n 0, 1) := dqr0 dqK_42 dqw_cX3_addRecording_0 0 rfl rfl
theorem dX3_addRecording_1 : decode cX3_addRecording 1 = .ok (.getfield 9, 3) := dqr2 dqK_180 dqw_cX3_addRecording_0 1 rfl rfl rfl rfl rfl
theorem dX3_addRecording_4 : decode cX3_addRecording 4 = .ok (.aload_n 0, 1) := dqr0 dqK_42 dqw_cX3_addRecording_0 4 rfl rfl
theorem dX3_addRecording_5 : decode cX3_addRecording 5 = .ok (.getfield 27, 3) := dqr2 dqK_180 dqw_cX3_addRecording_0 5 rfl rfl rfl rfl rfl
theorem dX3_addRecording_8 : decode cX3_addRecording 8 = .ok (.iload_n 1, 1) := dqr0 dqK_27 dqw_cX3_addRecording_0 8 rfl rfl
theorem dX3_addRecording_9 : decode cX3_addRecording 9 = .ok (.iastore, 1) := dqr0 dqK_79 dqw_cX3_addRecording_0 9 rfl rfl
theorem dX3_addRecording_10 : decode cX3_addRecording 10 = .ok (.aload_n 0, 1) := dqr0 dqK_42 dqw_cX3_addRecording_0 10 rfl rfl
theorem dX3_addRecording_11 : decode cX3_addRecording 11 = .ok (.getfield 15, 3) := dqr2 dqK_180 dqw_cX3_addRecording_0 11 rfl rfl rfl rfl rfl
theorem dX3_addRecording_14 : decode cX3_addRecording 14 = .ok (.aload_n 0, 1) := dqr0 dqK_42 dqw_cX3_addRecording_0 14 rfl rfl
theorem dX3_addRecording_15 : decode cX3_addRecording 15 = .ok (.getfield 27, 3) := dqr2 dqK_180 dqw_cX3_addRecording_0 15 rfl rfl rfl rfl rfl
theorem dX3_addRecording_18 : decode cX3_addRecording 18 = .ok (.iload_n 2, 1) := dqr0 dqK_28 dqw_cX3_addRecording_0 18 rfl rfl
theorem dX3_addRecording_19 : decode cX3_addRecording 19 = .ok (.iastore, 1) := dqr0 dqK_79 dqw_cX3_addRecording_0 19 rfl rfl
theorem dX3_addRecording_20 : decode cX3_addRecording 20 = .ok (.aload_n 0, 1) := dqr0 dqK_42 dqw_cX3_addRecording_0 20 rfl rfl
theorem dX3_addRecording_21 : decode cX3_addRecording 21 = .ok (.getfield 18, 3) := dqr2 dqK_180 dqw_cX3_addRecording_0 21 rfl rfl rfl rfl rfl
theorem dqw_cX3_addRecording_24 : dqLF cX3_addRecording 24 [42, 180, 0, 27, 29, 79, 42, 180, 0, 21, 42, 180, 0, 27, 21, 5, 79, 25, 4, 3, 42, 180, 0, 24] := by decide +kernel
theorem dX3_addRecording_24 : decode cX3_addRecording 24 = .ok (.aload_n 0, 1) := dqr0 dqK_42 dqw_cX3_addRecording_24 0 rfl rfl
theorem dX3_addRecording_25 : decode cX3_addRecording 25 = .ok (.getfield 27, 3) := dqr2 dqK_180 dqw_cX3_addRecording_24 1 rfl rfl rfl rfl rfl
theorem dX3_addRecording_28 : decode cX3_addRecording 28 = .ok (.iload_n 3, 1) := dqr0 dqK_29 dqw_cX3_addRecording_24 4 rfl rfl
theorem dX3_addRecording_29 : decode cX3_addRecording 29 = .ok (.iastore, 1) := dqr0 dqK_79 dqw_cX3_addRecording_24 5 rfl rfl
theorem dX3_addRecording_30 : decode cX3_addRecording 30 = .ok (.aload_n 0, 1) := dqr0 dqK_42 dqw_cX3_addRecording_24 6 rfl rfl
theorem dX3_addRecording_31 : decode cX3_addRecording 31 = .ok (.getfield 21, 3) := dqr2 dqK_180 dqw_cX3_addRecording_24 7 rfl rfl rfl rfl rfl
theorem dX3_addRecording_34 : decode cX3_addRecording 34 = .ok (.aload_n 0, 1) := dqr0 dqK_42 dqw_cX3_addRecording_24 10 rfl rfl
theorem dX3_addRecording_35 : decode cX3_addRecording 35 = .ok (.getfield 27, 3) := dqr2 dqK_180 dqw_cX3_addRecording_24 11 rfl rfl rfl rfl rfl
theorem dX3_addRecording_38 : decode cX3_addRecording 38 = .ok (.iload 5, 2) := dqr1 dqK_21 dqw_cX3_addRecording_24 14 rfl rfl rfl
theorem dX3_addRecording_40 : decode cX3_addRecording 40 = .ok (.iastore, 1) := dqr0 dqK_79 dqw_cX3_addRecording_24 16 rfl rfl
theorem dX3_addRecording_41 : decode cX3_addRecording 41 = .ok (.aload 4, 2) := dqr1 dqK_25 dqw_cX3_addRecording_24 17 rfl rfl rfl
theorem dX3_addRecording_43 : decode cX3_addRecording 43 = .ok (.iconst 0, 1) := dqr0 dqK_3 dqw_cX3_addRecording_24 19 rfl rfl
theorem dX3_addRecording_44 : decode cX3_addRecording 44 = .ok (.aload_n 0, 1) := dqr0 dqK_42 dqw_cX3_addRecording_24 20 rfl rfl
theorem dX3_addRecording_45 : decode cX3_addRecording 45 = .ok (.getfield 24, 3) := dqr2 dqK_180 dqw_cX3_addRecording_24 21 rfl rfl rfl rfl rfl
theorem dqw_cX3_addRecording_48 : dqLF cX3_addRecording 48 [42, 180, 0, 27, 16, 24, 104, 21, 5, 184, 0, 31, 42, 89, 180, 0, 27, 4, 96, 181, 0, 27, 42] := by decide +kernel
theorem dX3_addRecording_48 : decode cX3_addRecording 48 = .ok (.aload_n 0, 1) := dqr0 dqK_42 dqw_cX3_addRecording_48 0 rfl rfl
theorem dX3_addRecording_49 : decode cX3_addRecording 49 = .ok (.getfield 27, 3) := dqr2 dqK_180 dqw_cX3_addRecording_48 1 rfl rfl rfl rfl rfl
theorem dX3_addRecording_52 : decode cX3_addRecording 52 = .ok (.bipush 24, 2) := dqrs1 dqK_16 dqw_cX3_addRecording_48 4 rfl rfl rfl (by decide)
theorem dX3_addRecording_54 : decode cX3_addRecording 54 = .ok (.imul, 1) := dqr0 dqK_104 dqw_cX3_addRecording_48 6 rfl rfl
theorem dX3_addRecording_55 : decode cX3_addRecording 55 = .ok (.iload 5, 2) := dqr1 dqK_21 dqw_cX3_addRecording_48 7 rfl rfl rfl
theorem dX3_addRecording_57 : decode cX3_addRecording 57 = .ok (.invokestatic 31, 3) := dqr2 dqK_184 dqw_cX3_addRecording_48 9 rfl rfl rfl rfl rfl
theorem dX3_addRecording_60 : decode cX3_addRecording 60 = .ok (.aload_n 0, 1) := dqr0 dqK_42 dqw_cX3_addRecording_48 12 rfl rfl
theorem dX3_addRecording_61 : decode cX3_addRecording 61 = .ok (.dup, 1) := dqr0 dqK_89 dqw_cX3_addRecording_48 13 rfl rfl
theorem dX3_addRecording_62 : decode cX3_addRecording 62 = .ok (.getfield 27, 3) := dqr2 dqK_180 dqw_cX3_addRecording_48 14 rfl rfl rfl rfl rfl
theorem dX3_addRecording_65 : decode cX3_addRecording 65 = .ok (.iconst 1, 1) := dqr0 dqK_4 dqw_cX3_addRecording_48 17 rfl rfl
theorem dX3_addRecording_66 : decode cX3_addRecording 66 = .ok (.iadd, 1) := dqr0 dqK_96 dqw_cX3_addRecording_48 18 rfl rfl
theorem dX3_addRecording_67 : decode cX3_addRecording 67 = .ok (.putfield 27, 3) := dqr2 dqK_181 dqw_cX3_addRecording_48 19 rfl rfl rfl rfl rfl
theorem dX3_addRecording_70 : decode cX3_addRecording 70 = .ok (.aload_n 0, 1) := dqr0 dqK_42 dqw_cX3_addRecording_48 22 rfl rfl
theorem dqw_cX3_addRecording_71 : dqLF cX3_addRecording 71 [180, 0, 27, 4, 100, 172] := by decide +kernel
theorem dX3_addRecording_71 : decode cX3_addRecording 71 = .ok (.getfield 27, 3) := dqr2 dqK_180 dqw_cX3_addRecording_71 0 rfl rfl rfl rfl rfl
theorem dX3_addRecording_74 : decode cX3_addRecording 74 = .ok (.iconst 1, 1) := dqr0 dqK_4 dqw_cX3_addRecording_71 3 rfl rfl
theorem dX3_addRecording_75 : decode cX3_addRecording 75 = .ok (.isub, 1) := dqr0 dqK_100 dqw_cX3_addRecording_71 4 rfl rfl
theorem dX3_addRecording_76 : decode cX3_addRecording 76 = .ok (.ireturn, 1) := dqr0 dqK_172 dqw_cX3_addRecording_71 5 rfl rfl
theorem dqw_cX3_isLost_0 : dqLF cX3_isLost 0 [28, 155, 0, 33, 28, 42, 180, 0, 21, 27, 46, 162, 0, 23, 42, 180, 0, 24, 27, 16, 24, 104, 28, 96] := by decide +kernel
theorem dX3_isLost_0 : decode cX3_isLost 0 = .ok (.iload_n 2, 1) := dqr0 dqK_28 dqw_cX3_isLost_0 0 rfl rfl
theorem dX3_isLost_1 : decode cX3_isLost 1 = .ok (.ifCond .lt 33, 3) := dqrs2 dqK_155 dqw_cX3_isLost_0 1 rfl rfl rfl rfl (by decide)
theorem dX3_isLost_4 : decode cX3_isLost 4 = .ok (.iload_n 2, 1) := dqr0 dqK_28 dqw_cX3_isLost_0 4 rfl rfl
theorem dX3_isLost_5 : decode cX3_isLost 5 = .ok (.aload_n 0, 1) := dqr0 dqK_42 dqw_cX3_isLost_0 5 rfl rfl
theorem dX3_isLost_6 : decode cX3_isLost 6 = .ok (.getfield 21, 3) := dqr2 dqK_180 dqw_cX3_isLost_0 6 rfl rfl rfl rfl rfl
theorem dX3_isLost_9 : decode cX3_isLost 9 = .ok (.iload_n 1, 1) := dqr0 dqK_27 dqw_cX3_isLost_0 9 rfl rfl
theorem dX3_isLost_10 : decode cX3_isLost 10 = .ok (.iaload, 1) := dqr0 dqK_46 dqw_cX3_isLost_0 10 rfl rfl
theorem dX3_isLost_11 : decode cX3_isLost 11 = .ok (.if_icmp .ge 23, 3) := dqrs2 dqK_162 dqw_cX3_isLost_0 11 rfl rfl rfl rfl (by decide)
theorem dX3_isLost_14 : decode cX3_isLost 14 = .ok (.aload_n 0, 1) := dqr0 dqK_42 dqw_cX3_isLost_0 14 rfl rfl
theorem dX3_isLost_15 : decode cX3_isLost 15 = .ok (.getfield 24, 3) := dqr2 dqK_180 dqw_cX3_isLost_0 15 rfl rfl rfl rfl rfl
theorem dX3_isLost_18 : decode cX3_isLost 18 = .ok (.iload_n 1, 1) := dqr0 dqK_27 dqw_cX3_isLost_0 18 rfl rfl
theorem dX3_isLost_19 : decode cX3_isLost 19 = .ok (.bipush 24, 2) := dqrs1 dqK_16 dqw_cX3_isLost_0 19 rfl rfl rfl (by decide)
theorem dX3_isLost_21 : decode cX3_isLost 21 = .ok (.imul, 1) := dqr0 dqK_104 dqw_cX3_isLost_0 21 rfl rfl
theorem dX3_isLost_22 : decode cX3_isLost 22 = .ok (.iload_n 2, 1) := dqr0 dqK_28 dqw_cX3_isLost_0 22 rfl rfl
theorem dX3_isLost_23 : decode cX3_isLost 23 = .ok (.iadd, 1) := dqr0 dqK_96 dqw_cX3_isLost_0 23 rfl rfl
theorem dqw_cX3_isLost_24 : dqLF cX3_isLost 24 [46, 16, 40, 160, 0, 7, 4, 167, 0, 4, 3, 172] := by decide +kernel
theorem dX3_isLost_24 : decode cX3_isLost 24 = .ok (.iaload, 1) := dqr0 dqK_46 dqw_cX3_isLost_24 0 rfl rfl
theorem dX3_isLost_25 : decode cX3_isLost 25 = .ok (.bipush 40, 2) := dqrs1 dqK_16 dqw_cX3_isLost_24 1 rfl rfl rfl (by decide)
theorem dX3_isLost_27 : decode cX3_isLost 27 = .ok (.if_icmp .ne 7, 3) := dqrs2 dqK_160 dqw_cX3_isLost_24 3 rfl rfl rfl rfl (by decide)
theorem dX3_isLost_30 : decode cX3_isLost 30 = .ok (.iconst 1, 1) := dqr0 dqK_4 dqw_cX3_isLost_24 6 rfl rfl
theorem dX3_isLost_31 : decode cX3_isLost 31 = .ok (.goto 4, 3) := dqrs2 dqK_167 dqw_cX3_isLost_24 7 rfl rfl rfl rfl (by decide)
theorem dX3_isLost_34 : decode cX3_isLost 34 = .ok (.iconst 0, 1) := dqr0 dqK_3 dqw_cX3_isLost_24 10 rfl rfl
theorem dX3_isLost_35 : decode cX3_isLost 35 = .ok (.ireturn, 1) := dqr0 dqK_172 dqw_cX3_isLost_24 11 rfl rfl
theorem dqw_cX3_lostPlaces_0 : dqLF cX3_lostPlaces 0 [3, 61, 3, 62, 29, 42, 180, 0, 21, 27, 46, 162, 0, 21, 42, 27, 29, 182, 0, 37, 153, 0, 6] := by decide +kernel
theorem dX3_lostPlaces_0 : decode cX3_lostPlaces 0 = .ok (.iconst 0, 1) := dqr0 dqK_3 dqw_cX3_lostPlaces_0 0 rfl rfl
theorem dX3_lostPlaces_1 : decode cX3_lostPlaces 1 = .ok (.istore_n 2, 1) := dqr0 dqK_61 dqw_cX3_lostPlaces_0 1 rfl rfl
theorem dX3_lostPlaces_2 : decode cX3_lostPlaces 2 = .ok (.iconst 0, 1) := dqr0 dqK_3 dqw_cX3_lostPlaces_0 2 rfl rfl
theorem dX3_lostPlaces_3 : decode cX3_lostPlaces 3 = .ok (.istore_n 3, 1) := dqr0 dqK_62 dqw_cX3_lostPlaces_0 3 rfl rfl
theorem dX3_lostPlaces_4 : decode cX3_lostPlaces 4 = .ok (.iload_n 3, 1) := dqr0 dqK_29 dqw_cX3_lostPlaces_0 4 rfl rfl
theorem dX3_lostPlaces_5 : decode cX3_lostPlaces 5 = .ok (.aload_n 0, 1) := dqr0 dqK_42 dqw_cX3_lostPlaces_0 5 rfl rfl
theorem dX3_lostPlaces_6 : decode cX3_lostPlaces 6 = .ok (.getfield 21, 3) := dqr2 dqK_180 dqw_cX3_lostPlaces_0 6 rfl rfl rfl rfl rfl
theorem dX3_lostPlaces_9 : decode cX3_lostPlaces 9 = .ok (.iload_n 1, 1) := dqr0 dqK_27 dqw_cX3_lostPlaces_0 9 rfl rfl
theorem dX3_lostPlaces_10 : decode cX3_lostPlaces 10 = .ok (.iaload, 1) := dqr0 dqK_46 dqw_cX3_lostPlaces_0 10 rfl rfl
theorem dX3_lostPlaces_11 : decode cX3_lostPlaces 11 = .ok (.if_icmp .ge 21, 3) := dqrs2 dqK_162 dqw_cX3_lostPlaces_0 11 rfl rfl rfl rfl (by decide)
theorem dX3_lostPlaces_14 : decode cX3_lostPlaces 14 = .ok (.aload_n 0, 1) := dqr0 dqK_42 dqw_cX3_lostPlaces_0 14 rfl rfl
theorem dX3_lostPlaces_15 : decode cX3_lostPlaces 15 = .ok (.iload_n 1, 1) := dqr0 dqK_27 dqw_cX3_lostPlaces_0 15 rfl rfl
theorem dX3_lostPlaces_16 : decode cX3_lostPlaces 16 = .ok (.iload_n 3, 1) := dqr0 dqK_29 dqw_cX3_lostPlaces_0 16 rfl rfl
theorem dX3_lostPlaces_17 : decode cX3_lostPlaces 17 = .ok (.invokevirtual 37, 3) := dqr2 dqK_182 dqw_cX3_lostPlaces_0 17 rfl rfl rfl rfl rfl
theorem dX3_lostPlaces_20 : decode cX3_lostPlaces 20 = .ok (.ifCond .eq 6, 3) := dqrs2 dqK_153 dqw_cX3_lostPlaces_0 20 rfl rfl rfl rfl (by decide)
theorem dqw_cX3_lostPlaces_23 : dqLF cX3_lostPlaces 23 [132, 2, 1, 132, 3, 1, 167, 255, 231, 28, 172] := by decide +kernel
theorem dX3_lostPlaces_23 : decode cX3_lostPlaces 23 = .ok (.iinc 2 1, 3) := dqri dqK_132 dqw_cX3_lostPlaces_23 0 rfl rfl rfl rfl (by decide)
theorem dX3_lostPlaces_26 : decode cX3_lostPlaces 26 = .ok (.iinc 3 1, 3) := dqri dqK_132 dqw_cX3_lostPlaces_23 3 rfl rfl rfl rfl (by decide)
theorem dX3_lostPlaces_29 : decode cX3_lostPlaces 29 = .ok (.goto (-25), 3) := dqrs2 dqK_167 dqw_cX3_lostPlaces_23 6 rfl rfl rfl rfl (by decide)
theorem dX3_lostPlaces_32 : decode cX3_lostPlaces 32 = .ok (.iload_n 2, 1) := dqr0 dqK_28 dqw_cX3_lostPlaces_23 9 rfl rfl
theorem dX3_lostPlaces_33 : decode cX3_lostPlaces 33 = .ok (.ireturn, 1) := dqr0 dqK_172 dqw_cX3_lostPlaces_23 10 rfl rfl
theorem dqw_cX3_lacking_0 : dqLF cX3_lacking 0 [3, 54, 4, 3, 54, 5, 21, 5, 42, 180, 0, 21, 27, 46, 162, 0, 42, 42, 180, 0, 24, 27, 16, 24] := by decide +kernel
theorem dX3_lacking_0 : decode cX3_lacking 0 = .ok (.iconst 0, 1) := dqr0 dqK_3 dqw_cX3_lacking_0 0 rfl rfl
theorem dX3_lacking_1 : decode cX3_lacking 1 = .ok (.istore 4, 2) := dqr1 dqK_54 dqw_cX3_lacking_0 1 rfl rfl rfl
theorem dX3_lacking_3 : decode cX3_lacking 3 = .ok (.iconst 0, 1) := dqr0 dqK_3 dqw_cX3_lacking_0 3 rfl rfl
theorem dX3_lacking_4 : decode cX3_lacking 4 = .ok (.istore 5, 2) := dqr1 dqK_54 dqw_cX3_lacking_0 4 rfl rfl rfl
theorem dX3_lacking_6 : decode cX3_lacking 6 = .ok (.iload 5, 2) := dqr1 dqK_21 dqw_cX3_lacking_0 6 rfl rfl rfl
theorem dX3_lacking_8 : decode cX3_lacking 8 = .ok (.aload_n 0, 1) := dqr0 dqK_42 dqw_cX3_lacking_0 8 rfl rfl
theorem dX3_lacking_9 : decode cX3_lacking 9 = .ok (.getfield 21, 3) := dqr2 dqK_180 dqw_cX3_lacking_0 9 rfl rfl rfl rfl rfl
theorem dX3_lacking_12 : decode cX3_lacking 12 = .ok (.iload_n 1, 1) := dqr0 dqK_27 dqw_cX3_lacking_0 12 rfl rfl
theorem dX3_lacking_13 : decode cX3_lacking 13 = .ok (.iaload, 1) := dqr0 dqK_46 dqw_cX3_lacking_0 13 rfl rfl
theorem dX3_lacking_14 : decode cX3_lacking 14 = .ok (.if_icmp .ge 42, 3) := dqrs2 dqK_162 dqw_cX3_lacking_0 14 rfl rfl rfl rfl (by decide)
theorem dX3_lacking_17 : decode cX3_lacking 17 = .ok (.aload_n 0, 1) := dqr0 dqK_42 dqw_cX3_lacking_0 17 rfl rfl
theorem dX3_lacking_18 : decode cX3_lacking 18 = .ok (.getfield 24, 3) := dqr2 dqK_180 dqw_cX3_lacking_0 18 rfl rfl rfl rfl rfl
theorem dX3_lacking_21 : decode cX3_lacking 21 = .ok (.iload_n 1, 1) := dqr0 dqK_27 dqw_cX3_lacking_0 21 rfl rfl
theorem dX3_lacking_22 : decode cX3_lacking 22 = .ok (.bipush 24, 2) := dqrs1 dqK_16 dqw_cX3_lacking_0 22 rfl rfl rfl (by decide)
theorem dqw_cX3_lacking_24 : dqLF cX3_lacking 24 [104, 21, 5, 96, 46, 54, 6, 21, 6, 16, 40, 159, 0, 15, 32, 21, 6, 184, 0, 41, 154, 0, 6] := by decide +kernel
theorem dX3_lacking_24 : decode cX3_lacking 24 = .ok (.imul, 1) := dqr0 dqK_104 dqw_cX3_lacking_24 0 rfl rfl
theorem dX3_lacking_25 : decode cX3_lacking 25 = .ok (.iload 5, 2) := dqr1 dqK_21 dqw_cX3_lacking_24 1 rfl rfl rfl
theorem dX3_lacking_27 : decode cX3_lacking 27 = .ok (.iadd, 1) := dqr0 dqK_96 dqw_cX3_lacking_24 3 rfl rfl
theorem dX3_lacking_28 : decode cX3_lacking 28 = .ok (.iaload, 1) := dqr0 dqK_46 dqw_cX3_lacking_24 4 rfl rfl
theorem dX3_lacking_29 : decode cX3_lacking 29 = .ok (.istore 6, 2) := dqr1 dqK_54 dqw_cX3_lacking_24 5 rfl rfl rfl
theorem dX3_lacking_31 : decode cX3_lacking 31 = .ok (.iload 6, 2) := dqr1 dqK_21 dqw_cX3_lacking_24 7 rfl rfl rfl
theorem dX3_lacking_33 : decode cX3_lacking 33 = .ok (.bipush 40, 2) := dqrs1 dqK_16 dqw_cX3_lacking_24 9 rfl rfl rfl (by decide)
theorem dX3_lacking_35 : decode cX3_lacking 35 = .ok (.if_icmp .eq 15, 3) := dqrs2 dqK_159 dqw_cX3_lacking_24 11 rfl rfl rfl rfl (by decide)
theorem dX3_lacking_38 : decode cX3_lacking 38 = .ok (.lload_n 2, 1) := dqr0 dqK_32 dqw_cX3_lacking_24 14 rfl rfl
theorem dX3_lacking_39 : decode cX3_lacking 39 = .ok (.iload 6, 2) := dqr1 dqK_21 dqw_cX3_lacking_24 15 rfl rfl rfl
theorem dX3_lacking_41 : decode cX3_lacking 41 = .ok (.invokestatic 41, 3) := dqr2 dqK_184 dqw_cX3_lacking_24 17 rfl rfl rfl rfl rfl
theorem dX3_lacking_44 : decode cX3_lacking 44 = .ok (.ifCond .ne 6, 3) := dqrs2 dqK_154 dqw_cX3_lacking_24 20 rfl rfl rfl rfl (by decide)
theorem dqw_cX3_lacking_47 : dqLF cX3_lacking 47 [132, 4, 1, 132, 5, 1, 167, 255, 209, 21, 4, 172] := by decide +kernel
theorem dX3_lacking_47 : decode cX3_lacking 47 = .ok (.iinc 4 1, 3) := dqri dqK_132 dqw_cX3_lacking_47 0 rfl rfl rfl rfl (by decide)
theorem dX3_lacking_50 : decode cX3_lacking 50 = .ok (.iinc 5 1, 3) := dqri dqK_132 dqw_cX3_lacking_47 3 rfl rfl rfl rfl (by decide)
theorem dX3_lacking_53 : decode cX3_lacking 53 = .ok (.goto (-47), 3) := dqrs2 dqK_167 dqw_cX3_lacking_47 6 rfl rfl rfl rfl (by decide)
theorem dX3_lacking_56 : decode cX3_lacking 56 = .ok (.iload 4, 2) := dqr1 dqK_21 dqw_cX3_lacking_47 9 rfl rfl rfl
theorem dX3_lacking_58 : decode cX3_lacking 58 = .ok (.ireturn, 1) := dqr0 dqK_172 dqw_cX3_lacking_47 11 rfl rfl
theorem dqw_cX4_init_0 : dqLF cX4_init 0 [42, 183, 0, 3, 42, 16, 40] := by decide +kernel
theorem dX4_init_0 : decode cX4_init 0 = .ok (.aload_n 0, 1) := dqr0 dqK_42 dqw_cX4_init_0 0 rfl rfl
theorem dX4_init_1 : decode cX4_init 1 = .ok (.invokespecial 3, 3) := dqr2 dqK_183 dqw_cX4_init_0 1 rfl rfl rfl rfl rfl
theorem dX4_init_4 : decode cX4_init 4 = .ok (.aload_n 0, 1) := dqr0 dqK_42 dqw_cX4_init_0 4 rfl rfl
theorem dX4_init_5 : decode cX4_init 5 = .ok (.bipush 40, 2) := dqrs1 dqK_16 dqw_cX4_init_0 5 rfl rfl rfl (by decide)
theorem dX4_init_7 : decode cX4_init 7 = .ok (.newarray .int, 2) := by decide +kernel
theorem dqw_cX4_init_9 : dqLF cX4_init 9 [181, 0, 9, 42, 3, 181, 0, 15, 42, 16, 40] := by decide +kernel
theorem dX4_init_9 : decode cX4_init 9 = .ok (.putfield 9, 3) := dqr2 dqK_181 dqw_cX4_init_9 0 rfl rfl rfl rfl rfl
theorem dX4_init_12 : decode cX4_init 12 = .ok (.aload_n 0, 1) := dqr0 dqK_42 dqw_cX4_init_9 3 rfl rfl
theorem dX4_init_13 : decode cX4_init 13 = .ok (.iconst 0, 1) := dqr0 dqK_3 dqw_cX4_init_9 4 rfl rfl
theorem dX4_init_14 : decode cX4_init 14 = .ok (.putfield 15, 3) := dqr2 dqK_181 dqw_cX4_init_9 5 rfl rfl rfl rfl rfl
theorem dX4_init_17 : decode cX4_init 17 = .ok (.aload_n 0, 1) := dqr0 dqK_42 dqw_cX4_init_9 8 rfl rfl
theorem dX4_init_18 : decode cX4_init 18 = .ok (.bipush 40, 2) := dqrs1 dqK_16 dqw_cX4_init_9 9 rfl rfl rfl (by decide)
theorem dX4_init_20 : decode cX4_init 20 = .ok (.newarray .int, 2) := by decide +kernel
theorem dqw_cX4_init_22 : dqLF cX4_init 22 [181, 0, 19, 42, 3, 181, 0, 22, 42, 17, 1, 0] := by decide +kernel
theorem dX4_init_22 : decode cX4_init 22 = .ok (.putfield 19, 3) := dqr2 dqK_181 dqw_cX4_init_22 0 rfl rfl rfl rfl rfl
theorem dX4_init_25 : decode cX4_init 25 = .ok (.aload_n 0, 1) := dqr0 dqK_42 dqw_cX4_init_22 3 rfl rfl
theorem dX4_init_26 : decode cX4_init 26 = .ok (.iconst 0, 1) := dqr0 dqK_3 dqw_cX4_init_22 4 rfl rfl
theorem dX4_init_27 : decode cX4_init 27 = .ok (.putfield 22, 3) := dqr2 dqK_181 dqw_cX4_init_22 5 rfl rfl rfl rfl rfl
theorem dX4_init_30 : decode cX4_init 30 = .ok (.aload_n 0, 1) := dqr0 dqK_42 dqw_cX4_init_22 8 rfl rfl
theorem dX4_init_31 : decode cX4_init 31 = .ok (.sipush 256, 3) := dqrs2 dqK_17 dqw_cX4_init_22 9 rfl rfl rfl rfl (by decide)
theorem dX4_init_34 : decode cX4_init 34 = .ok (.newarray .int, 2) := by decide +kernel
theorem dqw_cX4_init_36 : dqLF cX4_init 36 [181, 0, 25, 42, 3, 181, 0, 28, 42, 3, 181, 0, 31, 42, 3, 181, 0, 34, 42, 3, 181, 0, 37, 42] := by decide +kernel
theorem dX4_init_36 : decode cX4_init 36 = .ok (.putfield 25, 3) := dqr2 dqK_181 dqw_cX4_init_36 0 rfl rfl rfl rfl rfl
theorem dX4_init_39 : decode cX4_init 39 = .ok (.aload_n 0, 1) := dqr0 dqK_42 dqw_cX4_init_36 3 rfl rfl
theorem dX4_init_40 : decode cX4_init 40 = .ok (.iconst 0, 1) := dqr0 dqK_3 dqw_cX4_init_36 4 rfl rfl
theorem dX4_init_41 : decode cX4_init 41 = .ok (.putfield 28, 3) := dqr2 dqK_181 dqw_cX4_init_36 5 rfl rfl rfl rfl rfl
theorem dX4_init_44 : decode cX4_init 44 = .ok (.aload_n 0, 1) := dqr0 dqK_42 dqw_cX4_init_36 8 rfl rfl
theorem dX4_init_45 : decode cX4_init 45 = .ok (.iconst 0, 1) := dqr0 dqK_3 dqw_cX4_init_36 9 rfl rfl
theorem dX4_init_46 : decode cX4_init 46 = .ok (.putfield 31, 3) := dqr2 dqK_181 dqw_cX4_init_36 10 rfl rfl rfl rfl rfl
theorem dX4_init_49 : decode cX4_init 49 = .ok (.aload_n 0, 1) := dqr0 dqK_42 dqw_cX4_init_36 13 rfl rfl
theorem dX4_init_50 : decode cX4_init 50 = .ok (.iconst 0, 1) := dqr0 dqK_3 dqw_cX4_init_36 14 rfl rfl
theorem dX4_init_51 : decode cX4_init 51 = .ok (.putfield 34, 3) := dqr2 dqK_181 dqw_cX4_init_36 15 rfl rfl rfl rfl rfl
theorem dX4_init_54 : decode cX4_init 54 = .ok (.aload_n 0, 1) := dqr0 dqK_42 dqw_cX4_init_36 18 rfl rfl
theorem dX4_init_55 : decode cX4_init 55 = .ok (.iconst 0, 1) := dqr0 dqK_3 dqw_cX4_init_36 19 rfl rfl
theorem dX4_init_56 : decode cX4_init 56 = .ok (.putfield 37, 3) := dqr2 dqK_181 dqw_cX4_init_36 20 rfl rfl rfl rfl rfl
theorem dX4_init_59 : decode cX4_init 59 = .ok (.aload_n 0, 1) := dqr0 dqK_42 dqw_cX4_init_36 23 rfl rfl
theorem dqw_cX4_init_60 : dqLF cX4_init 60 [9, 181, 0, 40, 42, 9, 181, 0, 44, 42, 43, 181, 0, 47, 42, 44, 181, 0, 51, 177] := by decide +kernel
theorem dX4_init_60 : decode cX4_init 60 = .ok (.lconst 0, 1) := dqr0 dqK_9 dqw_cX4_init_60 0 rfl rfl
theorem dX4_init_61 : decode cX4_init 61 = .ok (.putfield 40, 3) := dqr2 dqK_181 dqw_cX4_init_60 1 rfl rfl rfl rfl rfl
theorem dX4_init_64 : decode cX4_init 64 = .ok (.aload_n 0, 1) := dqr0 dqK_42 dqw_cX4_init_60 4 rfl rfl
theorem dX4_init_65 : decode cX4_init 65 = .ok (.lconst 0, 1) := dqr0 dqK_9 dqw_cX4_init_60 5 rfl rfl
theorem dX4_init_66 : decode cX4_init 66 = .ok (.putfield 44, 3) := dqr2 dqK_181 dqw_cX4_init_60 6 rfl rfl rfl rfl rfl
theorem dX4_init_69 : decode cX4_init 69 = .ok (.aload_n 0, 1) := dqr0 dqK_42 dqw_cX4_init_60 9 rfl rfl
theorem dX4_init_70 : decode cX4_init 70 = .ok (.aload_n 1, 1) := dqr0 dqK_43 dqw_cX4_init_60 10 rfl rfl
theorem dX4_init_71 : decode cX4_init 71 = .ok (.putfield 47, 3) := dqr2 dqK_181 dqw_cX4_init_60 11 rfl rfl rfl rfl rfl
theorem dX4_init_74 : decode cX4_init 74 = .ok (.aload_n 0, 1) := dqr0 dqK_42 dqw_cX4_init_60 14 rfl rfl
theorem dX4_init_75 : decode cX4_init 75 = .ok (.aload_n 2, 1) := dqr0 dqK_44 dqw_cX4_init_60 15 rfl rfl
theorem dX4_init_76 : decode cX4_init 76 = .ok (.putfield 51, 3) := dqr2 dqK_181 dqw_cX4_init_60 16 rfl rfl rfl rfl rfl
theorem dX4_init_79 : decode cX4_init 79 = .ok (.return_, 1) := dqr0 dqK_177 dqw_cX4_init_60 19 rfl rfl
theorem dqw_cX4_perform_0 : dqLF cX4_perform 0 [42, 32, 181, 0, 40, 42, 22, 4, 181, 0, 44, 42, 3, 181, 0, 22, 42, 3, 181, 0, 28, 42, 3] := by decide +kernel
theorem dX4_perform_0 : decode cX4_perform 0 = .ok (.aload_n 0, 1) := dqr0 dqK_42 dqw_cX4_perform_0 0 rfl rfl
theorem dX4_perform_1 : decode cX4_perform 1 = .ok (.lload_n 2, 1) := dqr0 dqK_32 dqw_cX4_perform_0 1 rfl rfl
theorem dX4_perform_2 : decode cX4_perform 2 = .ok (.putfield 40, 3) := dqr2 dqK_181 dqw_cX4_perform_0 2 rfl rfl rfl rfl rfl
theorem dX4_perform_5 : decode cX4_perform 5 = .ok (.aload_n 0, 1) := dqr0 dqK_42 dqw_cX4_perform_0 5 rfl rfl
theorem dX4_perform_6 : decode cX4_perform 6 = .ok (.lload 4, 2) := dqr1 dqK_22 dqw_cX4_perform_0 6 rfl rfl rfl
theorem dX4_perform_8 : decode cX4_perform 8 = .ok (.putfield 44, 3) := dqr2 dqK_181 dqw_cX4_perform_0 8 rfl rfl rfl rfl rfl
theorem dX4_perform_11 : decode cX4_perform 11 = .ok (.aload_n 0, 1) := dqr0 dqK_42 dqw_cX4_perform_0 11 rfl rfl
theorem dX4_perform_12 : decode cX4_perform 12 = .ok (.iconst 0, 1) := dqr0 dqK_3 dqw_cX4_perform_0 12 rfl rfl
theorem dX4_perform_13 : decode cX4_perform 13 = .ok (.putfield 22, 3) := dqr2 dqK_181 dqw_cX4_perform_0 13 rfl rfl rfl rfl rfl
theorem dX4_perform_16 : decode cX4_perform 16 = .ok (.aload_n 0, 1) := dqr0 dqK_42 dqw_cX4_perform_0 16 rfl rfl
theorem dX4_perform_17 : decode cX4_perform 17 = .ok (.iconst 0, 1) := dqr0 dqK_3 dqw_cX4_perform_0 17 rfl rfl
theorem dX4_perform_18 : decode cX4_perform 18 = .ok (.putfield 28, 3) := dqr2 dqK_181 dqw_cX4_perform_0 18 rfl rfl rfl rfl rfl
theorem dX4_perform_21 : decode cX4_perform 21 = .ok (.aload_n 0, 1) := dqr0 dqK_42 dqw_cX4_perform_0 21 rfl rfl
theorem dX4_perform_22 : decode cX4_perform 22 = .ok (.iconst 0, 1) := dqr0 dqK_3 dqw_cX4_perform_0 22 rfl rfl
theorem dqw_cX4_perform_23 : dqLF cX4_perform 23 [181, 0, 37, 42, 27, 182, 0, 55, 3, 54, 6, 21, 6, 18, 59, 162, 0, 71, 42, 180, 0, 34, 42] := by decide +kernel
theorem dX4_perform_23 : decode cX4_perform 23 = .ok (.putfield 37, 3) := dqr2 dqK_181 dqw_cX4_perform_23 0 rfl rfl rfl rfl rfl
theorem dX4_perform_26 : decode cX4_perform 26 = .ok (.aload_n 0, 1) := dqr0 dqK_42 dqw_cX4_perform_23 3 rfl rfl
theorem dX4_perform_27 : decode cX4_perform 27 = .ok (.iload_n 1, 1) := dqr0 dqK_27 dqw_cX4_perform_23 4 rfl rfl
theorem dX4_perform_28 : decode cX4_perform 28 = .ok (.invokevirtual 55, 3) := dqr2 dqK_182 dqw_cX4_perform_23 5 rfl rfl rfl rfl rfl
theorem dX4_perform_31 : decode cX4_perform 31 = .ok (.iconst 0, 1) := dqr0 dqK_3 dqw_cX4_perform_23 8 rfl rfl
theorem dX4_perform_32 : decode cX4_perform 32 = .ok (.istore 6, 2) := dqr1 dqK_54 dqw_cX4_perform_23 9 rfl rfl rfl
theorem dX4_perform_34 : decode cX4_perform 34 = .ok (.iload 6, 2) := dqr1 dqK_21 dqw_cX4_perform_23 11 rfl rfl rfl
theorem dX4_perform_36 : decode cX4_perform 36 = .ok (.ldc 59, 2) := dqr1 dqK_18 dqw_cX4_perform_23 13 rfl rfl rfl
theorem dX4_perform_38 : decode cX4_perform 38 = .ok (.if_icmp .ge 71, 3) := dqrs2 dqK_162 dqw_cX4_perform_23 15 rfl rfl rfl rfl (by decide)
theorem dX4_perform_41 : decode cX4_perform 41 = .ok (.aload_n 0, 1) := dqr0 dqK_42 dqw_cX4_perform_23 18 rfl rfl
theorem dX4_perform_42 : decode cX4_perform 42 = .ok (.getfield 34, 3) := dqr2 dqK_180 dqw_cX4_perform_23 19 rfl rfl rfl rfl rfl
theorem dX4_perform_45 : decode cX4_perform 45 = .ok (.aload_n 0, 1) := dqr0 dqK_42 dqw_cX4_perform_23 22 rfl rfl
theorem dqw_cX4_perform_46 : dqLF cX4_perform 46 [180, 0, 51, 180, 0, 60, 42, 180, 0, 31, 46, 161, 0, 22, 42, 180, 0, 28, 154, 0, 8, 42] := by decide +kernel
theorem dX4_perform_46 : decode cX4_perform 46 = .ok (.getfield 51, 3) := dqr2 dqK_180 dqw_cX4_perform_46 0 rfl rfl rfl rfl rfl
theorem dX4_perform_49 : decode cX4_perform 49 = .ok (.getfield 60, 3) := dqr2 dqK_180 dqw_cX4_perform_46 3 rfl rfl rfl rfl rfl
theorem dX4_perform_52 : decode cX4_perform 52 = .ok (.aload_n 0, 1) := dqr0 dqK_42 dqw_cX4_perform_46 6 rfl rfl
theorem dX4_perform_53 : decode cX4_perform 53 = .ok (.getfield 31, 3) := dqr2 dqK_180 dqw_cX4_perform_46 7 rfl rfl rfl rfl rfl
theorem dX4_perform_56 : decode cX4_perform 56 = .ok (.iaload, 1) := dqr0 dqK_46 dqw_cX4_perform_46 10 rfl rfl
theorem dX4_perform_57 : decode cX4_perform 57 = .ok (.if_icmp .lt 22, 3) := dqrs2 dqK_161 dqw_cX4_perform_46 11 rfl rfl rfl rfl (by decide)
theorem dX4_perform_60 : decode cX4_perform 60 = .ok (.aload_n 0, 1) := dqr0 dqK_42 dqw_cX4_perform_46 14 rfl rfl
theorem dX4_perform_61 : decode cX4_perform 61 = .ok (.getfield 28, 3) := dqr2 dqK_180 dqw_cX4_perform_46 15 rfl rfl rfl rfl rfl
theorem dX4_perform_64 : decode cX4_perform 64 = .ok (.ifCond .ne 8, 3) := dqrs2 dqK_154 dqw_cX4_perform_46 18 rfl rfl rfl rfl (by decide)
theorem dX4_perform_67 : decode cX4_perform 67 = .ok (.aload_n 0, 1) := dqr0 dqK_42 dqw_cX4_perform_46 21 rfl rfl
theorem dqw_cX4_perform_68 : dqLF cX4_perform 68 [182, 0, 65, 172, 42, 182, 0, 69, 167, 0, 27, 42, 42, 180, 0, 51, 42, 180, 0, 31, 42, 180, 0, 34] := by decide +kernel
theorem dX4_perform_68 : decode cX4_perform 68 = .ok (.invokevirtual 65, 3) := dqr2 dqK_182 dqw_cX4_perform_68 0 rfl rfl rfl rfl rfl
theorem dX4_perform_71 : decode cX4_perform 71 = .ok (.ireturn, 1) := dqr0 dqK_172 dqw_cX4_perform_68 3 rfl rfl
theorem dX4_perform_72 : decode cX4_perform 72 = .ok (.aload_n 0, 1) := dqr0 dqK_42 dqw_cX4_perform_68 4 rfl rfl
theorem dX4_perform_73 : decode cX4_perform 73 = .ok (.invokevirtual 69, 3) := dqr2 dqK_182 dqw_cX4_perform_68 5 rfl rfl rfl rfl rfl
theorem dX4_perform_76 : decode cX4_perform 76 = .ok (.goto 27, 3) := dqrs2 dqK_167 dqw_cX4_perform_68 8 rfl rfl rfl rfl (by decide)
theorem dX4_perform_79 : decode cX4_perform 79 = .ok (.aload_n 0, 1) := dqr0 dqK_42 dqw_cX4_perform_68 11 rfl rfl
theorem dX4_perform_80 : decode cX4_perform 80 = .ok (.aload_n 0, 1) := dqr0 dqK_42 dqw_cX4_perform_68 12 rfl rfl
theorem dX4_perform_81 : decode cX4_perform 81 = .ok (.getfield 51, 3) := dqr2 dqK_180 dqw_cX4_perform_68 13 rfl rfl rfl rfl rfl
theorem dX4_perform_84 : decode cX4_perform 84 = .ok (.aload_n 0, 1) := dqr0 dqK_42 dqw_cX4_perform_68 16 rfl rfl
theorem dX4_perform_85 : decode cX4_perform 85 = .ok (.getfield 31, 3) := dqr2 dqK_180 dqw_cX4_perform_68 17 rfl rfl rfl rfl rfl
theorem dX4_perform_88 : decode cX4_perform 88 = .ok (.aload_n 0, 1) := dqr0 dqK_42 dqw_cX4_perform_68 20 rfl rfl
theorem dX4_perform_89 : decode cX4_perform 89 = .ok (.getfield 34, 3) := dqr2 dqK_180 dqw_cX4_perform_68 21 rfl rfl rfl rfl rfl
theorem dqw_cX4_perform_92 : dqLF cX4_perform 92 [182, 0, 72, 182, 0, 76, 154, 0, 5, 3, 172, 132, 6, 1, 167, 255, 184, 3, 172] := by decide +kernel
theorem dX4_perform_92 : decode cX4_perform 92 = .ok (.invokevirtual 72, 3) := dqr2 dqK_182 dqw_cX4_perform_92 0 rfl rfl rfl rfl rfl
theorem dX4_perform_95 : decode cX4_perform 95 = .ok (.invokevirtual 76, 3) := dqr2 dqK_182 dqw_cX4_perform_92 3 rfl rfl rfl rfl rfl
theorem dX4_perform_98 : decode cX4_perform 98 = .ok (.ifCond .ne 5, 3) := dqrs2 dqK_154 dqw_cX4_perform_92 6 rfl rfl rfl rfl (by decide)
theorem dX4_perform_101 : decode cX4_perform 101 = .ok (.iconst 0, 1) := dqr0 dqK_3 dqw_cX4_perform_92 9 rfl rfl
theorem dX4_perform_102 : decode cX4_perform 102 = .ok (.ireturn, 1) := dqr0 dqK_172 dqw_cX4_perform_92 10 rfl rfl
theorem dX4_perform_103 : decode cX4_perform 103 = .ok (.iinc 6 1, 3) := dqri dqK_132 dqw_cX4_perform_92 11 rfl rfl rfl rfl (by decide)
theorem dX4_perform_106 : decode cX4_perform 106 = .ok (.goto (-72), 3) := dqrs2 dqK_167 dqw_cX4_perform_92 14 rfl rfl rfl rfl (by decide)
theorem dX4_perform_109 : decode cX4_perform 109 = .ok (.iconst 0, 1) := dqr0 dqK_3 dqw_cX4_perform_92 17 rfl rfl
theorem dX4_perform_110 : decode cX4_perform 110 = .ok (.ireturn, 1) := dqr0 dqK_172 dqw_cX4_perform_92 18 rfl rfl
theorem dqw_cX4_keepSong_0 : dqLF cX4_keepSong 0 [42, 180, 0, 19, 3, 42, 180, 0, 9, 3, 42, 180, 0, 22, 184, 0, 80, 42, 42, 180, 0, 22] := by decide +kernel
theorem dX4_keepSong_0 : decode cX4_keepSong 0 = .ok (.aload_n 0, 1) := dqr0 dqK_42 dqw_cX4_keepSong_0 0 rfl rfl
theorem dX4_keepSong_1 : decode cX4_keepSong 1 = .ok (.getfield 19, 3) := dqr2 dqK_180 dqw_cX4_keepSong_0 1 rfl rfl rfl rfl rfl
theorem dX4_keepSong_4 : decode cX4_keepSong 4 = .ok (.iconst 0, 1) := dqr0 dqK_3 dqw_cX4_keepSong_0 4 rfl rfl
theorem dX4_keepSong_5 : decode cX4_keepSong 5 = .ok (.aload_n 0, 1) := dqr0 dqK_42 dqw_cX4_keepSong_0 5 rfl rfl
theorem dX4_keepSong_6 : decode cX4_keepSong 6 = .ok (.getfield 9, 3) := dqr2 dqK_180 dqw_cX4_keepSong_0 6 rfl rfl rfl rfl rfl
theorem dX4_keepSong_9 : decode cX4_keepSong 9 = .ok (.iconst 0, 1) := dqr0 dqK_3 dqw_cX4_keepSong_0 9 rfl rfl
theorem dX4_keepSong_10 : decode cX4_keepSong 10 = .ok (.aload_n 0, 1) := dqr0 dqK_42 dqw_cX4_keepSong_0 10 rfl rfl
theorem dX4_keepSong_11 : decode cX4_keepSong 11 = .ok (.getfield 22, 3) := dqr2 dqK_180 dqw_cX4_keepSong_0 11 rfl rfl rfl rfl rfl
theorem dX4_keepSong_14 : decode cX4_keepSong 14 = .ok (.invokestatic 80, 3) := dqr2 dqK_184 dqw_cX4_keepSong_0 14 rfl rfl rfl rfl rfl
theorem dX4_keepSong_17 : decode cX4_keepSong 17 = .ok (.aload_n 0, 1) := dqr0 dqK_42 dqw_cX4_keepSong_0 17 rfl rfl
theorem dX4_keepSong_18 : decode cX4_keepSong 18 = .ok (.aload_n 0, 1) := dqr0 dqK_42 dqw_cX4_keepSong_0 18 rfl rfl
theorem dX4_keepSong_19 : decode cX4_keepSong 19 = .ok (.getfield 22, 3) := dqr2 dqK_180 dqw_cX4_keepSong_0 19 rfl rfl rfl rfl rfl
theorem dqw_cX4_keepSong_22 : dqLF cX4_keepSong 22 [181, 0, 15, 4, 172] := by decide +kernel
theorem dX4_keepSong_22 : decode cX4_keepSong 22 = .ok (.putfield 15, 3) := dqr2 dqK_181 dqw_cX4_keepSong_22 0 rfl rfl rfl rfl rfl
theorem dX4_keepSong_25 : decode cX4_keepSong 25 = .ok (.iconst 1, 1) := dqr0 dqK_4 dqw_cX4_keepSong_22 3 rfl rfl
theorem dX4_keepSong_26 : decode cX4_keepSong 26 = .ok (.ireturn, 1) := dqr0 dqK_172 dqw_cX4_keepSong_22 4 rfl rfl
theorem dqw_cX4_enterScene_0 : dqLF cX4_enterScene 0 [42, 27, 181, 0, 31, 42, 5, 181, 0, 34, 177] := by decide +kernel
theorem dX4_enterScene_0 : decode cX4_enterScene 0 = .ok (.aload_n 0, 1) := dqr0 dqK_42 dqw_cX4_enterScene_0 0 rfl rfl
theorem dX4_enterScene_1 : decode cX4_enterScene 1 = .ok (.iload_n 1, 1) := dqr0 dqK_27 dqw_cX4_enterScene_0 1 rfl rfl
theorem dX4_enterScene_2 : decode cX4_enterScene 2 = .ok (.putfield 31, 3) := dqr2 dqK_181 dqw_cX4_enterScene_0 2 rfl rfl rfl rfl rfl
theorem dX4_enterScene_5 : decode cX4_enterScene 5 = .ok (.aload_n 0, 1) := dqr0 dqK_42 dqw_cX4_enterScene_0 5 rfl rfl
theorem dX4_enterScene_6 : decode cX4_enterScene 6 = .ok (.iconst 2, 1) := dqr0 dqK_5 dqw_cX4_enterScene_0 6 rfl rfl
theorem dX4_enterScene_7 : decode cX4_enterScene 7 = .ok (.putfield 34, 3) := dqr2 dqK_181 dqw_cX4_enterScene_0 7 rfl rfl rfl rfl rfl
theorem dX4_enterScene_10 : decode cX4_enterScene 10 = .ok (.return_, 1) := dqr0 dqK_177 dqw_cX4_enterScene_0 10 rfl rfl
theorem dqw_cX4_goBack_0 : dqLF cX4_goBack 0 [42, 89, 180, 0, 28, 4, 100, 181, 0, 28, 42, 42, 180, 0, 25, 42, 180, 0, 28, 46, 16, 60, 108] := by decide +kernel
theorem dX4_goBack_0 : decode cX4_goBack 0 = .ok (.aload_n 0, 1) := dqr0 dqK_42 dqw_cX4_goBack_0 0 rfl rfl
theorem dX4_goBack_1 : decode cX4_goBack 1 = .ok (.dup, 1) := dqr0 dqK_89 dqw_cX4_goBack_0 1 rfl rfl
theorem dX4_goBack_2 : decode cX4_goBack 2 = .ok (.getfield 28, 3) := dqr2 dqK_180 dqw_cX4_goBack_0 2 rfl rfl rfl rfl rfl
theorem dX4_goBack_5 : decode cX4_goBack 5 = .ok (.iconst 1, 1) := dqr0 dqK_4 dqw_cX4_goBack_0 5 rfl rfl
theorem dX4_goBack_6 : decode cX4_goBack 6 = .ok (.isub, 1) := dqr0 dqK_100 dqw_cX4_goBack_0 6 rfl rfl
theorem dX4_goBack_7 : decode cX4_goBack 7 = .ok (.putfield 28, 3) := dqr2 dqK_181 dqw_cX4_goBack_0 7 rfl rfl rfl rfl rfl
theorem dX4_goBack_10 : decode cX4_goBack 10 = .ok (.aload_n 0, 1) := dqr0 dqK_42 dqw_cX4_goBack_0 10 rfl rfl
theorem dX4_goBack_11 : decode cX4_goBack 11 = .ok (.aload_n 0, 1) := dqr0 dqK_42 dqw_cX4_goBack_0 11 rfl rfl
theorem dX4_goBack_12 : decode cX4_goBack 12 = .ok (.getfield 25, 3) := dqr2 dqK_180 dqw_cX4_goBack_0 12 rfl rfl rfl rfl rfl
theorem dX4_goBack_15 : decode cX4_goBack 15 = .ok (.aload_n 0, 1) := dqr0 dqK_42 dqw_cX4_goBack_0 15 rfl rfl
theorem dX4_goBack_16 : decode cX4_goBack 16 = .ok (.getfield 28, 3) := dqr2 dqK_180 dqw_cX4_goBack_0 16 rfl rfl rfl rfl rfl
theorem dX4_goBack_19 : decode cX4_goBack 19 = .ok (.iaload, 1) := dqr0 dqK_46 dqw_cX4_goBack_0 19 rfl rfl
theorem dX4_goBack_20 : decode cX4_goBack 20 = .ok (.bipush 60, 2) := dqrs1 dqK_16 dqw_cX4_goBack_0 20 rfl rfl rfl (by decide)
theorem dX4_goBack_22 : decode cX4_goBack 22 = .ok (.idiv, 1) := dqr0 dqK_108 dqw_cX4_goBack_0 22 rfl rfl
theorem dqw_cX4_goBack_23 : dqLF cX4_goBack 23 [181, 0, 31, 42, 42, 180, 0, 25, 42, 180, 0, 28, 46, 16, 60, 112, 4, 96, 181, 0, 34, 177] := by decide +kernel
theorem dX4_goBack_23 : decode cX4_goBack 23 = .ok (.putfield 31, 3) := dqr2 dqK_181 dqw_cX4_goBack_23 0 rfl rfl rfl rfl rfl
theorem dX4_goBack_26 : decode cX4_goBack 26 = .ok (.aload_n 0, 1) := dqr0 dqK_42 dqw_cX4_goBack_23 3 rfl rfl
theorem dX4_goBack_27 : decode cX4_goBack 27 = .ok (.aload_n 0, 1) := dqr0 dqK_42 dqw_cX4_goBack_23 4 rfl rfl
theorem dX4_goBack_28 : decode cX4_goBack 28 = .ok (.getfield 25, 3) := dqr2 dqK_180 dqw_cX4_goBack_23 5 rfl rfl rfl rfl rfl
theorem dX4_goBack_31 : decode cX4_goBack 31 = .ok (.aload_n 0, 1) := dqr0 dqK_42 dqw_cX4_goBack_23 8 rfl rfl
theorem dX4_goBack_32 : decode cX4_goBack 32 = .ok (.getfield 28, 3) := dqr2 dqK_180 dqw_cX4_goBack_23 9 rfl rfl rfl rfl rfl
theorem dX4_goBack_35 : decode cX4_goBack 35 = .ok (.iaload, 1) := dqr0 dqK_46 dqw_cX4_goBack_23 12 rfl rfl
theorem dX4_goBack_36 : decode cX4_goBack 36 = .ok (.bipush 60, 2) := dqrs1 dqK_16 dqw_cX4_goBack_23 13 rfl rfl rfl (by decide)
theorem dX4_goBack_38 : decode cX4_goBack 38 = .ok (.irem, 1) := dqr0 dqK_112 dqw_cX4_goBack_23 15 rfl rfl
theorem dX4_goBack_39 : decode cX4_goBack 39 = .ok (.iconst 1, 1) := dqr0 dqK_4 dqw_cX4_goBack_23 16 rfl rfl
theorem dX4_goBack_40 : decode cX4_goBack 40 = .ok (.iadd, 1) := dqr0 dqK_96 dqw_cX4_goBack_23 17 rfl rfl
theorem dX4_goBack_41 : decode cX4_goBack 41 = .ok (.putfield 34, 3) := dqr2 dqK_181 dqw_cX4_goBack_23 18 rfl rfl rfl rfl rfl
theorem dX4_goBack_44 : decode cX4_goBack 44 = .ok (.return_, 1) := dqr0 dqK_177 dqw_cX4_goBack_23 21 rfl rfl
theorem dqw_cX4_await_0 : dqLF cX4_await 0 [42, 180, 0, 28, 17, 1, 0, 161, 0, 5, 3, 172, 42, 180, 0, 25, 42, 180, 0, 28, 27, 79, 42, 89] := by decide +kernel
theorem dX4_await_0 : decode cX4_await 0 = .ok (.aload_n 0, 1) := dqr0 dqK_42 dqw_cX4_await_0 0 rfl rfl
theorem dX4_await_1 : decode cX4_await 1 = .ok (.getfield 28, 3) := dqr2 dqK_180 dqw_cX4_await_0 1 rfl rfl rfl rfl rfl
theorem dX4_await_4 : decode cX4_await 4 = .ok (.sipush 256, 3) := dqrs2 dqK_17 dqw_cX4_await_0 4 rfl rfl rfl rfl (by decide)
theorem dX4_await_7 : decode cX4_await 7 = .ok (.if_icmp .lt 5, 3) := dqrs2 dqK_161 dqw_cX4_await_0 7 rfl rfl rfl rfl (by decide)
theorem dX4_await_10 : decode cX4_await 10 = .ok (.iconst 0, 1) := dqr0 dqK_3 dqw_cX4_await_0 10 rfl rfl
theorem dX4_await_11 : decode cX4_await 11 = .ok (.ireturn, 1) := dqr0 dqK_172 dqw_cX4_await_0 11 rfl rfl
theorem dX4_await_12 : decode cX4_await 12 = .ok (.aload_n 0, 1) := dqr0 dqK_42 dqw_cX4_await_0 12 rfl rfl
theorem dX4_await_13 : decode cX4_await 13 = .ok (.getfield 25, 3) := dqr2 dqK_180 dqw_cX4_await_0 13 rfl rfl rfl rfl rfl
theorem dX4_await_16 : decode cX4_await 16 = .ok (.aload_n 0, 1) := dqr0 dqK_42 dqw_cX4_await_0 16 rfl rfl
theorem dX4_await_17 : decode cX4_await 17 = .ok (.getfield 28, 3) := dqr2 dqK_180 dqw_cX4_await_0 17 rfl rfl rfl rfl rfl
theorem dX4_await_20 : decode cX4_await 20 = .ok (.iload_n 1, 1) := dqr0 dqK_27 dqw_cX4_await_0 20 rfl rfl
theorem dX4_await_21 : decode cX4_await 21 = .ok (.iastore, 1) := dqr0 dqK_79 dqw_cX4_await_0 21 rfl rfl
theorem dX4_await_22 : decode cX4_await 22 = .ok (.aload_n 0, 1) := dqr0 dqK_42 dqw_cX4_await_0 22 rfl rfl
theorem dX4_await_23 : decode cX4_await 23 = .ok (.dup, 1) := dqr0 dqK_89 dqw_cX4_await_0 23 rfl rfl
theorem dqw_cX4_await_24 : dqLF cX4_await 24 [180, 0, 28, 4, 96, 181, 0, 28, 4, 172] := by decide +kernel
theorem dX4_await_24 : decode cX4_await 24 = .ok (.getfield 28, 3) := dqr2 dqK_180 dqw_cX4_await_24 0 rfl rfl rfl rfl rfl
theorem dX4_await_27 : decode cX4_await 27 = .ok (.iconst 1, 1) := dqr0 dqK_4 dqw_cX4_await_24 3 rfl rfl
theorem dX4_await_28 : decode cX4_await 28 = .ok (.iadd, 1) := dqr0 dqK_96 dqw_cX4_await_24 4 rfl rfl
theorem dX4_await_29 : decode cX4_await 29 = .ok (.putfield 28, 3) := dqr2 dqK_181 dqw_cX4_await_24 5 rfl rfl rfl rfl rfl
theorem dX4_await_32 : decode cX4_await 32 = .ok (.iconst 1, 1) := dqr0 dqK_4 dqw_cX4_await_24 8 rfl rfl
theorem dX4_await_33 : decode cX4_await 33 = .ok (.ireturn, 1) := dqr0 dqK_172 dqw_cX4_await_24 9 rfl rfl
theorem dqw_cX4_takeSign_0 : dqLF cX4_takeSign 0 [27] := by decide +kernel
theorem dX4_takeSign_0 : decode cX4_takeSign 0 = .ok (.iload_n 1, 1) := dqr0 dqK_27 dqw_cX4_takeSign_0 0 rfl rfl
theorem dX4_takeSign_1 : decode cX4_takeSign 1 = .ok (.lookupswitch 83 #[(41, 43), (93, 43), (124, 55), (125, 78)], 43) := by decide +kernel
theorem dqw_cX4_takeSign_44 : dqLF cX4_takeSign 44 [42, 89, 180, 0, 34, 4, 96, 181, 0, 34, 4, 172, 42, 42, 180, 0, 51, 42, 180, 0, 31, 42] := by decide +kernel
theorem dX4_takeSign_44 : decode cX4_takeSign 44 = .ok (.aload_n 0, 1) := dqr0 dqK_42 dqw_cX4_takeSign_44 0 rfl rfl
theorem dX4_takeSign_45 : decode cX4_takeSign 45 = .ok (.dup, 1) := dqr0 dqK_89 dqw_cX4_takeSign_44 1 rfl rfl
theorem dX4_takeSign_46 : decode cX4_takeSign 46 = .ok (.getfield 34, 3) := dqr2 dqK_180 dqw_cX4_takeSign_44 2 rfl rfl rfl rfl rfl
theorem dX4_takeSign_49 : decode cX4_takeSign 49 = .ok (.iconst 1, 1) := dqr0 dqK_4 dqw_cX4_takeSign_44 5 rfl rfl
theorem dX4_takeSign_50 : decode cX4_takeSign 50 = .ok (.iadd, 1) := dqr0 dqK_96 dqw_cX4_takeSign_44 6 rfl rfl
theorem dX4_takeSign_51 : decode cX4_takeSign 51 = .ok (.putfield 34, 3) := dqr2 dqK_181 dqw_cX4_takeSign_44 7 rfl rfl rfl rfl rfl
theorem dX4_takeSign_54 : decode cX4_takeSign 54 = .ok (.iconst 1, 1) := dqr0 dqK_4 dqw_cX4_takeSign_44 10 rfl rfl
theorem dX4_takeSign_55 : decode cX4_takeSign 55 = .ok (.ireturn, 1) := dqr0 dqK_172 dqw_cX4_takeSign_44 11 rfl rfl
theorem dX4_takeSign_56 : decode cX4_takeSign 56 = .ok (.aload_n 0, 1) := dqr0 dqK_42 dqw_cX4_takeSign_44 12 rfl rfl
theorem dX4_takeSign_57 : decode cX4_takeSign 57 = .ok (.aload_n 0, 1) := dqr0 dqK_42 dqw_cX4_takeSign_44 13 rfl rfl
theorem dX4_takeSign_58 : decode cX4_takeSign 58 = .ok (.getfield 51, 3) := dqr2 dqK_180 dqw_cX4_takeSign_44 14 rfl rfl rfl rfl rfl
theorem dX4_takeSign_61 : decode cX4_takeSign 61 = .ok (.aload_n 0, 1) := dqr0 dqK_42 dqw_cX4_takeSign_44 17 rfl rfl
theorem dX4_takeSign_62 : decode cX4_takeSign 62 = .ok (.getfield 31, 3) := dqr2 dqK_180 dqw_cX4_takeSign_44 18 rfl rfl rfl rfl rfl
theorem dX4_takeSign_65 : decode cX4_takeSign 65 = .ok (.aload_n 0, 1) := dqr0 dqK_42 dqw_cX4_takeSign_44 21 rfl rfl
theorem dqw_cX4_takeSign_66 : dqLF cX4_takeSign 66 [180, 0, 34, 182, 0, 86, 4, 96, 181, 0, 34, 4, 172, 42, 182, 0, 89, 172, 42, 89, 180, 0, 37, 4] := by decide +kernel
theorem dX4_takeSign_66 : decode cX4_takeSign 66 = .ok (.getfield 34, 3) := dqr2 dqK_180 dqw_cX4_takeSign_66 0 rfl rfl rfl rfl rfl
theorem dX4_takeSign_69 : decode cX4_takeSign 69 = .ok (.invokevirtual 86, 3) := dqr2 dqK_182 dqw_cX4_takeSign_66 3 rfl rfl rfl rfl rfl
theorem dX4_takeSign_72 : decode cX4_takeSign 72 = .ok (.iconst 1, 1) := dqr0 dqK_4 dqw_cX4_takeSign_66 6 rfl rfl
theorem dX4_takeSign_73 : decode cX4_takeSign 73 = .ok (.iadd, 1) := dqr0 dqK_96 dqw_cX4_takeSign_66 7 rfl rfl
theorem dX4_takeSign_74 : decode cX4_takeSign 74 = .ok (.putfield 34, 3) := dqr2 dqK_181 dqw_cX4_takeSign_66 8 rfl rfl rfl rfl rfl
theorem dX4_takeSign_77 : decode cX4_takeSign 77 = .ok (.iconst 1, 1) := dqr0 dqK_4 dqw_cX4_takeSign_66 11 rfl rfl
theorem dX4_takeSign_78 : decode cX4_takeSign 78 = .ok (.ireturn, 1) := dqr0 dqK_172 dqw_cX4_takeSign_66 12 rfl rfl
theorem dX4_takeSign_79 : decode cX4_takeSign 79 = .ok (.aload_n 0, 1) := dqr0 dqK_42 dqw_cX4_takeSign_66 13 rfl rfl
theorem dX4_takeSign_80 : decode cX4_takeSign 80 = .ok (.invokevirtual 89, 3) := dqr2 dqK_182 dqw_cX4_takeSign_66 14 rfl rfl rfl rfl rfl
theorem dX4_takeSign_83 : decode cX4_takeSign 83 = .ok (.ireturn, 1) := dqr0 dqK_172 dqw_cX4_takeSign_66 17 rfl rfl
theorem dX4_takeSign_84 : decode cX4_takeSign 84 = .ok (.aload_n 0, 1) := dqr0 dqK_42 dqw_cX4_takeSign_66 18 rfl rfl
theorem dX4_takeSign_85 : decode cX4_takeSign 85 = .ok (.dup, 1) := dqr0 dqK_89 dqw_cX4_takeSign_66 19 rfl rfl
theorem dX4_takeSign_86 : decode cX4_takeSign 86 = .ok (.getfield 37, 3) := dqr2 dqK_180 dqw_cX4_takeSign_66 20 rfl rfl rfl rfl rfl
theorem dX4_takeSign_89 : decode cX4_takeSign 89 = .ok (.iconst 1, 1) := dqr0 dqK_4 dqw_cX4_takeSign_66 23 rfl rfl
theorem dqw_cX4_takeSign_90 : dqLF cX4_takeSign 90 [96, 181, 0, 37, 42, 180, 0, 37, 17, 7, 208, 163, 0, 15, 42, 27, 182, 0, 92, 153, 0, 7, 4] := by decide +kernel
theorem dX4_takeSign_90 : decode cX4_takeSign 90 = .ok (.iadd, 1) := dqr0 dqK_96 dqw_cX4_takeSign_90 0 rfl rfl
theorem dX4_takeSign_91 : decode cX4_takeSign 91 = .ok (.putfield 37, 3) := dqr2 dqK_181 dqw_cX4_takeSign_90 1 rfl rfl rfl rfl rfl
theorem dX4_takeSign_94 : decode cX4_takeSign 94 = .ok (.aload_n 0, 1) := dqr0 dqK_42 dqw_cX4_takeSign_90 4 rfl rfl
theorem dX4_takeSign_95 : decode cX4_takeSign 95 = .ok (.getfield 37, 3) := dqr2 dqK_180 dqw_cX4_takeSign_90 5 rfl rfl rfl rfl rfl
theorem dX4_takeSign_98 : decode cX4_takeSign 98 = .ok (.sipush 2000, 3) := dqrs2 dqK_17 dqw_cX4_takeSign_90 8 rfl rfl rfl rfl (by decide)
theorem dX4_takeSign_101 : decode cX4_takeSign 101 = .ok (.if_icmp .gt 15, 3) := dqrs2 dqK_163 dqw_cX4_takeSign_90 11 rfl rfl rfl rfl (by decide)
theorem dX4_takeSign_104 : decode cX4_takeSign 104 = .ok (.aload_n 0, 1) := dqr0 dqK_42 dqw_cX4_takeSign_90 14 rfl rfl
theorem dX4_takeSign_105 : decode cX4_takeSign 105 = .ok (.iload_n 1, 1) := dqr0 dqK_27 dqw_cX4_takeSign_90 15 rfl rfl
theorem dX4_takeSign_106 : decode cX4_takeSign 106 = .ok (.invokevirtual 92, 3) := dqr2 dqK_182 dqw_cX4_takeSign_90 16 rfl rfl rfl rfl rfl
theorem dX4_takeSign_109 : decode cX4_takeSign 109 = .ok (.ifCond .eq 7, 3) := dqrs2 dqK_153 dqw_cX4_takeSign_90 19 rfl rfl rfl rfl (by decide)
theorem dX4_takeSign_112 : decode cX4_takeSign 112 = .ok (.iconst 1, 1) := dqr0 dqK_4 dqw_cX4_takeSign_90 22 rfl rfl
theorem dqw_cX4_takeSign_113 : dqLF cX4_takeSign 113 [167, 0, 4, 3, 172] := by decide +kernel
theorem dX4_takeSign_113 : decode cX4_takeSign 113 = .ok (.goto 4, 3) := dqrs2 dqK_167 dqw_cX4_takeSign_113 0 rfl rfl rfl rfl (by decide)
theorem dX4_takeSign_116 : decode cX4_takeSign 116 = .ok (.iconst 0, 1) := dqr0 dqK_3 dqw_cX4_takeSign_113 3 rfl rfl
theorem dX4_takeSign_117 : decode cX4_takeSign 117 = .ok (.ireturn, 1) := dqr0 dqK_172 dqw_cX4_takeSign_113 4 rfl rfl
theorem dqw_cX4_takeItem_0 : dqLF cX4_takeItem 0 [27, 184, 0, 95, 153, 0, 12, 42, 27, 16, 97, 100, 182, 0, 98, 172, 27, 184, 0, 101, 153, 0, 34, 42] := by decide +kernel
theorem dX4_takeItem_0 : decode cX4_takeItem 0 = .ok (.iload_n 1, 1) := dqr0 dqK_27 dqw_cX4_takeItem_0 0 rfl rfl
theorem dX4_takeItem_1 : decode cX4_takeItem 1 = .ok (.invokestatic 95, 3) := dqr2 dqK_184 dqw_cX4_takeItem_0 1 rfl rfl rfl rfl rfl
theorem dX4_takeItem_4 : decode cX4_takeItem 4 = .ok (.ifCond .eq 12, 3) := dqrs2 dqK_153 dqw_cX4_takeItem_0 4 rfl rfl rfl rfl (by decide)
theorem dX4_takeItem_7 : decode cX4_takeItem 7 = .ok (.aload_n 0, 1) := dqr0 dqK_42 dqw_cX4_takeItem_0 7 rfl rfl
theorem dX4_takeItem_8 : decode cX4_takeItem 8 = .ok (.iload_n 1, 1) := dqr0 dqK_27 dqw_cX4_takeItem_0 8 rfl rfl
theorem dX4_takeItem_9 : decode cX4_takeItem 9 = .ok (.bipush 97, 2) := dqrs1 dqK_16 dqw_cX4_takeItem_0 9 rfl rfl rfl (by decide)
theorem dX4_takeItem_11 : decode cX4_takeItem 11 = .ok (.isub, 1) := dqr0 dqK_100 dqw_cX4_takeItem_0 11 rfl rfl
theorem dX4_takeItem_12 : decode cX4_takeItem 12 = .ok (.invokevirtual 98, 3) := dqr2 dqK_182 dqw_cX4_takeItem_0 12 rfl rfl rfl rfl rfl
theorem dX4_takeItem_15 : decode cX4_takeItem 15 = .ok (.ireturn, 1) := dqr0 dqK_172 dqw_cX4_takeItem_0 15 rfl rfl
theorem dX4_takeItem_16 : decode cX4_takeItem 16 = .ok (.iload_n 1, 1) := dqr0 dqK_27 dqw_cX4_takeItem_0 16 rfl rfl
theorem dX4_takeItem_17 : decode cX4_takeItem 17 = .ok (.invokestatic 101, 3) := dqr2 dqK_184 dqw_cX4_takeItem_0 17 rfl rfl rfl rfl rfl
theorem dX4_takeItem_20 : decode cX4_takeItem 20 = .ok (.ifCond .eq 34, 3) := dqrs2 dqK_153 dqw_cX4_takeItem_0 20 rfl rfl rfl rfl (by decide)
theorem dX4_takeItem_23 : decode cX4_takeItem 23 = .ok (.aload_n 0, 1) := dqr0 dqK_42 dqw_cX4_takeItem_0 23 rfl rfl
theorem dqw_cX4_takeItem_24 : dqLF cX4_takeItem 24 [42, 180, 0, 31, 16, 60, 104, 42, 180, 0, 34, 96, 182, 0, 104, 154, 0, 5, 3, 172, 42, 27, 16, 65] := by decide +kernel
theorem dX4_takeItem_24 : decode cX4_takeItem 24 = .ok (.aload_n 0, 1) := dqr0 dqK_42 dqw_cX4_takeItem_24 0 rfl rfl
theorem dX4_takeItem_25 : decode cX4_takeItem 25 = .ok (.getfield 31, 3) := dqr2 dqK_180 dqw_cX4_takeItem_24 1 rfl rfl rfl rfl rfl
theorem dX4_takeItem_28 : decode cX4_takeItem 28 = .ok (.bipush 60, 2) := dqrs1 dqK_16 dqw_cX4_takeItem_24 4 rfl rfl rfl (by decide)
theorem dX4_takeItem_30 : decode cX4_takeItem 30 = .ok (.imul, 1) := dqr0 dqK_104 dqw_cX4_takeItem_24 6 rfl rfl
theorem dX4_takeItem_31 : decode cX4_takeItem 31 = .ok (.aload_n 0, 1) := dqr0 dqK_42 dqw_cX4_takeItem_24 7 rfl rfl
theorem dX4_takeItem_32 : decode cX4_takeItem 32 = .ok (.getfield 34, 3) := dqr2 dqK_180 dqw_cX4_takeItem_24 8 rfl rfl rfl rfl rfl
theorem dX4_takeItem_35 : decode cX4_takeItem 35 = .ok (.iadd, 1) := dqr0 dqK_96 dqw_cX4_takeItem_24 11 rfl rfl
theorem dX4_takeItem_36 : decode cX4_takeItem 36 = .ok (.invokevirtual 104, 3) := dqr2 dqK_182 dqw_cX4_takeItem_24 12 rfl rfl rfl rfl rfl
theorem dX4_takeItem_39 : decode cX4_takeItem 39 = .ok (.ifCond .ne 5, 3) := dqrs2 dqK_154 dqw_cX4_takeItem_24 15 rfl rfl rfl rfl (by decide)
theorem dX4_takeItem_42 : decode cX4_takeItem 42 = .ok (.iconst 0, 1) := dqr0 dqK_3 dqw_cX4_takeItem_24 18 rfl rfl
theorem dX4_takeItem_43 : decode cX4_takeItem 43 = .ok (.ireturn, 1) := dqr0 dqK_172 dqw_cX4_takeItem_24 19 rfl rfl
theorem dX4_takeItem_44 : decode cX4_takeItem 44 = .ok (.aload_n 0, 1) := dqr0 dqK_42 dqw_cX4_takeItem_24 20 rfl rfl
theorem dX4_takeItem_45 : decode cX4_takeItem 45 = .ok (.iload_n 1, 1) := dqr0 dqK_27 dqw_cX4_takeItem_24 21 rfl rfl
theorem dX4_takeItem_46 : decode cX4_takeItem 46 = .ok (.bipush 65, 2) := dqrs1 dqK_16 dqw_cX4_takeItem_24 22 rfl rfl rfl (by decide)
theorem dqw_cX4_takeItem_48 : dqLF cX4_takeItem 48 [100, 182, 0, 55, 4, 172, 42, 180, 0, 34, 4, 96, 61, 42, 180, 0, 51, 42, 180, 0, 31, 42] := by decide +kernel
theorem dX4_takeItem_48 : decode cX4_takeItem 48 = .ok (.isub, 1) := dqr0 dqK_100 dqw_cX4_takeItem_48 0 rfl rfl
theorem dX4_takeItem_49 : decode cX4_takeItem 49 = .ok (.invokevirtual 55, 3) := dqr2 dqK_182 dqw_cX4_takeItem_48 1 rfl rfl rfl rfl rfl
theorem dX4_takeItem_52 : decode cX4_takeItem 52 = .ok (.iconst 1, 1) := dqr0 dqK_4 dqw_cX4_takeItem_48 4 rfl rfl
theorem dX4_takeItem_53 : decode cX4_takeItem 53 = .ok (.ireturn, 1) := dqr0 dqK_172 dqw_cX4_takeItem_48 5 rfl rfl
theorem dX4_takeItem_54 : decode cX4_takeItem 54 = .ok (.aload_n 0, 1) := dqr0 dqK_42 dqw_cX4_takeItem_48 6 rfl rfl
theorem dX4_takeItem_55 : decode cX4_takeItem 55 = .ok (.getfield 34, 3) := dqr2 dqK_180 dqw_cX4_takeItem_48 7 rfl rfl rfl rfl rfl
theorem dX4_takeItem_58 : decode cX4_takeItem 58 = .ok (.iconst 1, 1) := dqr0 dqK_4 dqw_cX4_takeItem_48 10 rfl rfl
theorem dX4_takeItem_59 : decode cX4_takeItem 59 = .ok (.iadd, 1) := dqr0 dqK_96 dqw_cX4_takeItem_48 11 rfl rfl
theorem dX4_takeItem_60 : decode cX4_takeItem 60 = .ok (.istore_n 2, 1) := dqr0 dqK_61 dqw_cX4_takeItem_48 12 rfl rfl
theorem dX4_takeItem_61 : decode cX4_takeItem 61 = .ok (.aload_n 0, 1) := dqr0 dqK_42 dqw_cX4_takeItem_48 13 rfl rfl
theorem dX4_takeItem_62 : decode cX4_takeItem 62 = .ok (.getfield 51, 3) := dqr2 dqK_180 dqw_cX4_takeItem_48 14 rfl rfl rfl rfl rfl
theorem dX4_takeItem_65 : decode cX4_takeItem 65 = .ok (.aload_n 0, 1) := dqr0 dqK_42 dqw_cX4_takeItem_48 17 rfl rfl
theorem dX4_takeItem_66 : decode cX4_takeItem 66 = .ok (.getfield 31, 3) := dqr2 dqK_180 dqw_cX4_takeItem_48 18 rfl rfl rfl rfl rfl
theorem dX4_takeItem_69 : decode cX4_takeItem 69 = .ok (.aload_n 0, 1) := dqr0 dqK_42 dqw_cX4_takeItem_48 21 rfl rfl
theorem dqw_cX4_takeItem_70 : dqLF cX4_takeItem 70 [180, 0, 34, 182, 0, 86, 4, 96, 62, 27, 16, 123, 160, 0, 54, 42, 42, 180, 0, 51, 180, 0, 107, 4] := by decide +kernel
theorem dX4_takeItem_70 : decode cX4_takeItem 70 = .ok (.getfield 34, 3) := dqr2 dqK_180 dqw_cX4_takeItem_70 0 rfl rfl rfl rfl rfl
theorem dX4_takeItem_73 : decode cX4_takeItem 73 = .ok (.invokevirtual 86, 3) := dqr2 dqK_182 dqw_cX4_takeItem_70 3 rfl rfl rfl rfl rfl
theorem dX4_takeItem_76 : decode cX4_takeItem 76 = .ok (.iconst 1, 1) := dqr0 dqK_4 dqw_cX4_takeItem_70 6 rfl rfl
theorem dX4_takeItem_77 : decode cX4_takeItem 77 = .ok (.iadd, 1) := dqr0 dqK_96 dqw_cX4_takeItem_70 7 rfl rfl
theorem dX4_takeItem_78 : decode cX4_takeItem 78 = .ok (.istore_n 3, 1) := dqr0 dqK_62 dqw_cX4_takeItem_70 8 rfl rfl
theorem dX4_takeItem_79 : decode cX4_takeItem 79 = .ok (.iload_n 1, 1) := dqr0 dqK_27 dqw_cX4_takeItem_70 9 rfl rfl
theorem dX4_takeItem_80 : decode cX4_takeItem 80 = .ok (.bipush 123, 2) := dqrs1 dqK_16 dqw_cX4_takeItem_70 10 rfl rfl rfl (by decide)
theorem dX4_takeItem_82 : decode cX4_takeItem 82 = .ok (.if_icmp .ne 54, 3) := dqrs2 dqK_160 dqw_cX4_takeItem_70 12 rfl rfl rfl rfl (by decide)
theorem dX4_takeItem_85 : decode cX4_takeItem 85 = .ok (.aload_n 0, 1) := dqr0 dqK_42 dqw_cX4_takeItem_70 15 rfl rfl
theorem dX4_takeItem_86 : decode cX4_takeItem 86 = .ok (.aload_n 0, 1) := dqr0 dqK_42 dqw_cX4_takeItem_70 16 rfl rfl
theorem dX4_takeItem_87 : decode cX4_takeItem 87 = .ok (.getfield 51, 3) := dqr2 dqK_180 dqw_cX4_takeItem_70 17 rfl rfl rfl rfl rfl
theorem dX4_takeItem_90 : decode cX4_takeItem 90 = .ok (.getfield 107, 3) := dqr2 dqK_180 dqw_cX4_takeItem_70 20 rfl rfl rfl rfl rfl
theorem dX4_takeItem_93 : decode cX4_takeItem 93 = .ok (.iconst 1, 1) := dqr0 dqK_4 dqw_cX4_takeItem_70 23 rfl rfl
theorem dqw_cX4_takeItem_94 : dqLF cX4_takeItem 94 [96, 182, 0, 110, 54, 4, 42, 21, 4, 154, 0, 7, 29, 167, 0, 4, 28, 181, 0, 34, 21, 4] := by decide +kernel
theorem dX4_takeItem_94 : decode cX4_takeItem 94 = .ok (.iadd, 1) := dqr0 dqK_96 dqw_cX4_takeItem_94 0 rfl rfl
theorem dX4_takeItem_95 : decode cX4_takeItem 95 = .ok (.invokevirtual 110, 3) := dqr2 dqK_182 dqw_cX4_takeItem_94 1 rfl rfl rfl rfl rfl
theorem dX4_takeItem_98 : decode cX4_takeItem 98 = .ok (.istore 4, 2) := dqr1 dqK_54 dqw_cX4_takeItem_94 4 rfl rfl rfl
theorem dX4_takeItem_100 : decode cX4_takeItem 100 = .ok (.aload_n 0, 1) := dqr0 dqK_42 dqw_cX4_takeItem_94 6 rfl rfl
theorem dX4_takeItem_101 : decode cX4_takeItem 101 = .ok (.iload 4, 2) := dqr1 dqK_21 dqw_cX4_takeItem_94 7 rfl rfl rfl
theorem dX4_takeItem_103 : decode cX4_takeItem 103 = .ok (.ifCond .ne 7, 3) := dqrs2 dqK_154 dqw_cX4_takeItem_94 9 rfl rfl rfl rfl (by decide)
theorem dX4_takeItem_106 : decode cX4_takeItem 106 = .ok (.iload_n 3, 1) := dqr0 dqK_29 dqw_cX4_takeItem_94 12 rfl rfl
theorem dX4_takeItem_107 : decode cX4_takeItem 107 = .ok (.goto 4, 3) := dqrs2 dqK_167 dqw_cX4_takeItem_94 13 rfl rfl rfl rfl (by decide)
theorem dX4_takeItem_110 : decode cX4_takeItem 110 = .ok (.iload_n 2, 1) := dqr0 dqK_28 dqw_cX4_takeItem_94 16 rfl rfl
theorem dX4_takeItem_111 : decode cX4_takeItem 111 = .ok (.putfield 34, 3) := dqr2 dqK_181 dqw_cX4_takeItem_94 17 rfl rfl rfl rfl rfl
theorem dX4_takeItem_114 : decode cX4_takeItem 114 = .ok (.iload 4, 2) := dqr1 dqK_21 dqw_cX4_takeItem_94 20 rfl rfl rfl
theorem dqw_cX4_takeItem_116 : dqLF cX4_takeItem 116 [153, 0, 14, 42, 21, 4, 4, 100, 182, 0, 104, 153, 0, 7, 4, 167, 0, 4, 3, 172, 42, 5] := by decide +kernel
theorem dX4_takeItem_116 : decode cX4_takeItem 116 = .ok (.ifCond .eq 14, 3) := dqrs2 dqK_153 dqw_cX4_takeItem_116 0 rfl rfl rfl rfl (by decide)
theorem dX4_takeItem_119 : decode cX4_takeItem 119 = .ok (.aload_n 0, 1) := dqr0 dqK_42 dqw_cX4_takeItem_116 3 rfl rfl
theorem dX4_takeItem_120 : decode cX4_takeItem 120 = .ok (.iload 4, 2) := dqr1 dqK_21 dqw_cX4_takeItem_116 4 rfl rfl rfl
theorem dX4_takeItem_122 : decode cX4_takeItem 122 = .ok (.iconst 1, 1) := dqr0 dqK_4 dqw_cX4_takeItem_116 6 rfl rfl
theorem dX4_takeItem_123 : decode cX4_takeItem 123 = .ok (.isub, 1) := dqr0 dqK_100 dqw_cX4_takeItem_116 7 rfl rfl
theorem dX4_takeItem_124 : decode cX4_takeItem 124 = .ok (.invokevirtual 104, 3) := dqr2 dqK_182 dqw_cX4_takeItem_116 8 rfl rfl rfl rfl rfl
theorem dX4_takeItem_127 : decode cX4_takeItem 127 = .ok (.ifCond .eq 7, 3) := dqrs2 dqK_153 dqw_cX4_takeItem_116 11 rfl rfl rfl rfl (by decide)
theorem dX4_takeItem_130 : decode cX4_takeItem 130 = .ok (.iconst 1, 1) := dqr0 dqK_4 dqw_cX4_takeItem_116 14 rfl rfl
theorem dX4_takeItem_131 : decode cX4_takeItem 131 = .ok (.goto 4, 3) := dqrs2 dqK_167 dqw_cX4_takeItem_116 15 rfl rfl rfl rfl (by decide)
theorem dX4_takeItem_134 : decode cX4_takeItem 134 = .ok (.iconst 0, 1) := dqr0 dqK_3 dqw_cX4_takeItem_116 18 rfl rfl
theorem dX4_takeItem_135 : decode cX4_takeItem 135 = .ok (.ireturn, 1) := dqr0 dqK_172 dqw_cX4_takeItem_116 19 rfl rfl
theorem dX4_takeItem_136 : decode cX4_takeItem 136 = .ok (.aload_n 0, 1) := dqr0 dqK_42 dqw_cX4_takeItem_116 20 rfl rfl
theorem dX4_takeItem_137 : decode cX4_takeItem 137 = .ok (.iconst 2, 1) := dqr0 dqK_5 dqw_cX4_takeItem_116 21 rfl rfl
theorem dqw_cX4_takeItem_138 : dqLF cX4_takeItem 138 [182, 0, 110, 27, 16, 91, 160, 0, 7, 4, 167, 0, 4, 3, 160, 0, 7, 4, 167, 0, 4, 3, 54, 4] := by decide +kernel
theorem dX4_takeItem_138 : decode cX4_takeItem 138 = .ok (.invokevirtual 110, 3) := dqr2 dqK_182 dqw_cX4_takeItem_138 0 rfl rfl rfl rfl rfl
theorem dX4_takeItem_141 : decode cX4_takeItem 141 = .ok (.iload_n 1, 1) := dqr0 dqK_27 dqw_cX4_takeItem_138 3 rfl rfl
theorem dX4_takeItem_142 : decode cX4_takeItem 142 = .ok (.bipush 91, 2) := dqrs1 dqK_16 dqw_cX4_takeItem_138 4 rfl rfl rfl (by decide)
theorem dX4_takeItem_144 : decode cX4_takeItem 144 = .ok (.if_icmp .ne 7, 3) := dqrs2 dqK_160 dqw_cX4_takeItem_138 6 rfl rfl rfl rfl (by decide)
theorem dX4_takeItem_147 : decode cX4_takeItem 147 = .ok (.iconst 1, 1) := dqr0 dqK_4 dqw_cX4_takeItem_138 9 rfl rfl
theorem dX4_takeItem_148 : decode cX4_takeItem 148 = .ok (.goto 4, 3) := dqrs2 dqK_167 dqw_cX4_takeItem_138 10 rfl rfl rfl rfl (by decide)
theorem dX4_takeItem_151 : decode cX4_takeItem 151 = .ok (.iconst 0, 1) := dqr0 dqK_3 dqw_cX4_takeItem_138 13 rfl rfl
theorem dX4_takeItem_152 : decode cX4_takeItem 152 = .ok (.if_icmp .ne 7, 3) := dqrs2 dqK_160 dqw_cX4_takeItem_138 14 rfl rfl rfl rfl (by decide)
theorem dX4_takeItem_155 : decode cX4_takeItem 155 = .ok (.iconst 1, 1) := dqr0 dqK_4 dqw_cX4_takeItem_138 17 rfl rfl
theorem dX4_takeItem_156 : decode cX4_takeItem 156 = .ok (.goto 4, 3) := dqrs2 dqK_167 dqw_cX4_takeItem_138 18 rfl rfl rfl rfl (by decide)
theorem dX4_takeItem_159 : decode cX4_takeItem 159 = .ok (.iconst 0, 1) := dqr0 dqK_3 dqw_cX4_takeItem_138 21 rfl rfl
theorem dX4_takeItem_160 : decode cX4_takeItem 160 = .ok (.istore 4, 2) := dqr1 dqK_54 dqw_cX4_takeItem_138 22 rfl rfl rfl
theorem dqw_cX4_takeItem_162 : dqLF cX4_takeItem 162 [42, 21, 4, 153, 0, 7, 28, 167, 0, 4, 29, 181, 0, 34, 4, 172] := by decide +kernel
theorem dX4_takeItem_162 : decode cX4_takeItem 162 = .ok (.aload_n 0, 1) := dqr0 dqK_42 dqw_cX4_takeItem_162 0 rfl rfl
theorem dX4_takeItem_163 : decode cX4_takeItem 163 = .ok (.iload 4, 2) := dqr1 dqK_21 dqw_cX4_takeItem_162 1 rfl rfl rfl
theorem dX4_takeItem_165 : decode cX4_takeItem 165 = .ok (.ifCond .eq 7, 3) := dqrs2 dqK_153 dqw_cX4_takeItem_162 3 rfl rfl rfl rfl (by decide)
theorem dX4_takeItem_168 : decode cX4_takeItem 168 = .ok (.iload_n 2, 1) := dqr0 dqK_28 dqw_cX4_takeItem_162 6 rfl rfl
theorem dX4_takeItem_169 : decode cX4_takeItem 169 = .ok (.goto 4, 3) := dqrs2 dqK_167 dqw_cX4_takeItem_162 7 rfl rfl rfl rfl (by decide)
theorem dX4_takeItem_172 : decode cX4_takeItem 172 = .ok (.iload_n 3, 1) := dqr0 dqK_29 dqw_cX4_takeItem_162 10 rfl rfl
theorem dX4_takeItem_173 : decode cX4_takeItem 173 = .ok (.putfield 34, 3) := dqr2 dqK_181 dqw_cX4_takeItem_162 11 rfl rfl rfl rfl rfl
theorem dX4_takeItem_176 : decode cX4_takeItem 176 = .ok (.iconst 1, 1) := dqr0 dqK_4 dqw_cX4_takeItem_162 14 rfl rfl
theorem dX4_takeItem_177 : decode cX4_takeItem 177 = .ok (.ireturn, 1) := dqr0 dqK_172 dqw_cX4_takeItem_162 15 rfl rfl
theorem dqw_cX4_again_0 : dqLF cX4_again 0 [42, 180, 0, 28, 154, 0, 5, 3, 172, 42, 180, 0, 25, 42, 180, 0, 28, 4, 100, 46, 158, 0, 42, 42] := by decide +kernel
theorem dX4_again_0 : decode cX4_again 0 = .ok (.aload_n 0, 1) := dqr0 dqK_42 dqw_cX4_again_0 0 rfl rfl
theorem dX4_again_1 : decode cX4_again 1 = .ok (.getfield 28, 3) := dqr2 dqK_180 dqw_cX4_again_0 1 rfl rfl rfl rfl rfl
theorem dX4_again_4 : decode cX4_again 4 = .ok (.ifCond .ne 5, 3) := dqrs2 dqK_154 dqw_cX4_again_0 4 rfl rfl rfl rfl (by decide)
theorem dX4_again_7 : decode cX4_again 7 = .ok (.iconst 0, 1) := dqr0 dqK_3 dqw_cX4_again_0 7 rfl rfl
theorem dX4_again_8 : decode cX4_again 8 = .ok (.ireturn, 1) := dqr0 dqK_172 dqw_cX4_again_0 8 rfl rfl
theorem dX4_again_9 : decode cX4_again 9 = .ok (.aload_n 0, 1) := dqr0 dqK_42 dqw_cX4_again_0 9 rfl rfl
theorem dX4_again_10 : decode cX4_again 10 = .ok (.getfield 25, 3) := dqr2 dqK_180 dqw_cX4_again_0 10 rfl rfl rfl rfl rfl
theorem dX4_again_13 : decode cX4_again 13 = .ok (.aload_n 0, 1) := dqr0 dqK_42 dqw_cX4_again_0 13 rfl rfl
theorem dX4_again_14 : decode cX4_again 14 = .ok (.getfield 28, 3) := dqr2 dqK_180 dqw_cX4_again_0 14 rfl rfl rfl rfl rfl
theorem dX4_again_17 : decode cX4_again 17 = .ok (.iconst 1, 1) := dqr0 dqK_4 dqw_cX4_again_0 17 rfl rfl
theorem dX4_again_18 : decode cX4_again 18 = .ok (.isub, 1) := dqr0 dqK_100 dqw_cX4_again_0 18 rfl rfl
theorem dX4_again_19 : decode cX4_again 19 = .ok (.iaload, 1) := dqr0 dqK_46 dqw_cX4_again_0 19 rfl rfl
theorem dX4_again_20 : decode cX4_again 20 = .ok (.ifCond .le 42, 3) := dqrs2 dqK_158 dqw_cX4_again_0 20 rfl rfl rfl rfl (by decide)
theorem dX4_again_23 : decode cX4_again 23 = .ok (.aload_n 0, 1) := dqr0 dqK_42 dqw_cX4_again_0 23 rfl rfl
theorem dqw_cX4_again_24 : dqLF cX4_again 24 [180, 0, 25, 42, 180, 0, 28, 4, 100, 92, 46, 4, 100, 79, 42, 42, 180, 0, 51, 42, 180, 0, 31, 42] := by decide +kernel
theorem dX4_again_24 : decode cX4_again 24 = .ok (.getfield 25, 3) := dqr2 dqK_180 dqw_cX4_again_24 0 rfl rfl rfl rfl rfl
theorem dX4_again_27 : decode cX4_again 27 = .ok (.aload_n 0, 1) := dqr0 dqK_42 dqw_cX4_again_24 3 rfl rfl
theorem dX4_again_28 : decode cX4_again 28 = .ok (.getfield 28, 3) := dqr2 dqK_180 dqw_cX4_again_24 4 rfl rfl rfl rfl rfl
theorem dX4_again_31 : decode cX4_again 31 = .ok (.iconst 1, 1) := dqr0 dqK_4 dqw_cX4_again_24 7 rfl rfl
theorem dX4_again_32 : decode cX4_again 32 = .ok (.isub, 1) := dqr0 dqK_100 dqw_cX4_again_24 8 rfl rfl
theorem dX4_again_33 : decode cX4_again 33 = .ok (.dup2, 1) := dqr0 dqK_92 dqw_cX4_again_24 9 rfl rfl
theorem dX4_again_34 : decode cX4_again 34 = .ok (.iaload, 1) := dqr0 dqK_46 dqw_cX4_again_24 10 rfl rfl
theorem dX4_again_35 : decode cX4_again 35 = .ok (.iconst 1, 1) := dqr0 dqK_4 dqw_cX4_again_24 11 rfl rfl
theorem dX4_again_36 : decode cX4_again 36 = .ok (.isub, 1) := dqr0 dqK_100 dqw_cX4_again_24 12 rfl rfl
theorem dX4_again_37 : decode cX4_again 37 = .ok (.iastore, 1) := dqr0 dqK_79 dqw_cX4_again_24 13 rfl rfl
theorem dX4_again_38 : decode cX4_again 38 = .ok (.aload_n 0, 1) := dqr0 dqK_42 dqw_cX4_again_24 14 rfl rfl
theorem dX4_again_39 : decode cX4_again 39 = .ok (.aload_n 0, 1) := dqr0 dqK_42 dqw_cX4_again_24 15 rfl rfl
theorem dX4_again_40 : decode cX4_again 40 = .ok (.getfield 51, 3) := dqr2 dqK_180 dqw_cX4_again_24 16 rfl rfl rfl rfl rfl
theorem dX4_again_43 : decode cX4_again 43 = .ok (.aload_n 0, 1) := dqr0 dqK_42 dqw_cX4_again_24 19 rfl rfl
theorem dX4_again_44 : decode cX4_again 44 = .ok (.getfield 31, 3) := dqr2 dqK_180 dqw_cX4_again_24 20 rfl rfl rfl rfl rfl
theorem dX4_again_47 : decode cX4_again 47 = .ok (.aload_n 0, 1) := dqr0 dqK_42 dqw_cX4_again_24 23 rfl rfl
theorem dqw_cX4_again_48 : dqLF cX4_again 48 [180, 0, 34, 182, 0, 86, 4, 96, 181, 0, 34, 167, 0, 23, 42, 89, 180, 0, 28, 4, 100, 181, 0, 28] := by decide +kernel
theorem dX4_again_48 : decode cX4_again 48 = .ok (.getfield 34, 3) := dqr2 dqK_180 dqw_cX4_again_48 0 rfl rfl rfl rfl rfl
theorem dX4_again_51 : decode cX4_again 51 = .ok (.invokevirtual 86, 3) := dqr2 dqK_182 dqw_cX4_again_48 3 rfl rfl rfl rfl rfl
theorem dX4_again_54 : decode cX4_again 54 = .ok (.iconst 1, 1) := dqr0 dqK_4 dqw_cX4_again_48 6 rfl rfl
theorem dX4_again_55 : decode cX4_again 55 = .ok (.iadd, 1) := dqr0 dqK_96 dqw_cX4_again_48 7 rfl rfl
theorem dX4_again_56 : decode cX4_again 56 = .ok (.putfield 34, 3) := dqr2 dqK_181 dqw_cX4_again_48 8 rfl rfl rfl rfl rfl
theorem dX4_again_59 : decode cX4_again 59 = .ok (.goto 23, 3) := dqrs2 dqK_167 dqw_cX4_again_48 11 rfl rfl rfl rfl (by decide)
theorem dX4_again_62 : decode cX4_again 62 = .ok (.aload_n 0, 1) := dqr0 dqK_42 dqw_cX4_again_48 14 rfl rfl
theorem dX4_again_63 : decode cX4_again 63 = .ok (.dup, 1) := dqr0 dqK_89 dqw_cX4_again_48 15 rfl rfl
theorem dX4_again_64 : decode cX4_again 64 = .ok (.getfield 28, 3) := dqr2 dqK_180 dqw_cX4_again_48 16 rfl rfl rfl rfl rfl
theorem dX4_again_67 : decode cX4_again 67 = .ok (.iconst 1, 1) := dqr0 dqK_4 dqw_cX4_again_48 19 rfl rfl
theorem dX4_again_68 : decode cX4_again 68 = .ok (.isub, 1) := dqr0 dqK_100 dqw_cX4_again_48 20 rfl rfl
theorem dX4_again_69 : decode cX4_again 69 = .ok (.putfield 28, 3) := dqr2 dqK_181 dqw_cX4_again_48 21 rfl rfl rfl rfl rfl
theorem dqw_cX4_again_72 : dqLF cX4_again 72 [42, 89, 180, 0, 34, 4, 96, 181, 0, 34, 4, 172] := by decide +kernel
theorem dX4_again_72 : decode cX4_again 72 = .ok (.aload_n 0, 1) := dqr0 dqK_42 dqw_cX4_again_72 0 rfl rfl
theorem dX4_again_73 : decode cX4_again 73 = .ok (.dup, 1) := dqr0 dqK_89 dqw_cX4_again_72 1 rfl rfl
theorem dX4_again_74 : decode cX4_again 74 = .ok (.getfield 34, 3) := dqr2 dqK_180 dqw_cX4_again_72 2 rfl rfl rfl rfl rfl
theorem dX4_again_77 : decode cX4_again 77 = .ok (.iconst 1, 1) := dqr0 dqK_4 dqw_cX4_again_72 5 rfl rfl
theorem dX4_again_78 : decode cX4_again 78 = .ok (.iadd, 1) := dqr0 dqK_96 dqw_cX4_again_72 6 rfl rfl
theorem dX4_again_79 : decode cX4_again 79 = .ok (.putfield 34, 3) := dqr2 dqK_181 dqw_cX4_again_72 7 rfl rfl rfl rfl rfl
theorem dX4_again_82 : decode cX4_again 82 = .ok (.iconst 1, 1) := dqr0 dqK_4 dqw_cX4_again_72 10 rfl rfl
theorem dX4_again_83 : decode cX4_again 83 = .ok (.ireturn, 1) := dqr0 dqK_172 dqw_cX4_again_72 11 rfl rfl
theorem dqw_cX4_singLine_0 : dqLF cX4_singLine 0 [42, 180, 0, 40, 42, 180, 0, 47, 180, 0, 114, 27, 47, 127, 65, 32, 9, 148, 153, 0, 12, 42] := by decide +kernel
theorem dX4_singLine_0 : decode cX4_singLine 0 = .ok (.aload_n 0, 1) := dqr0 dqK_42 dqw_cX4_singLine_0 0 rfl rfl
theorem dX4_singLine_1 : decode cX4_singLine 1 = .ok (.getfield 40, 3) := dqr2 dqK_180 dqw_cX4_singLine_0 1 rfl rfl rfl rfl rfl
theorem dX4_singLine_4 : decode cX4_singLine 4 = .ok (.aload_n 0, 1) := dqr0 dqK_42 dqw_cX4_singLine_0 4 rfl rfl
theorem dX4_singLine_5 : decode cX4_singLine 5 = .ok (.getfield 47, 3) := dqr2 dqK_180 dqw_cX4_singLine_0 5 rfl rfl rfl rfl rfl
theorem dX4_singLine_8 : decode cX4_singLine 8 = .ok (.getfield 114, 3) := dqr2 dqK_180 dqw_cX4_singLine_0 8 rfl rfl rfl rfl rfl
theorem dX4_singLine_11 : decode cX4_singLine 11 = .ok (.iload_n 1, 1) := dqr0 dqK_27 dqw_cX4_singLine_0 11 rfl rfl
theorem dX4_singLine_12 : decode cX4_singLine 12 = .ok (.laload, 1) := dqr0 dqK_47 dqw_cX4_singLine_0 12 rfl rfl
theorem dX4_singLine_13 : decode cX4_singLine 13 = .ok (.land, 1) := dqr0 dqK_127 dqw_cX4_singLine_0 13 rfl rfl
theorem dX4_singLine_14 : decode cX4_singLine 14 = .ok (.lstore_n 2, 1) := dqr0 dqK_65 dqw_cX4_singLine_0 14 rfl rfl
theorem dX4_singLine_15 : decode cX4_singLine 15 = .ok (.lload_n 2, 1) := dqr0 dqK_32 dqw_cX4_singLine_0 15 rfl rfl
theorem dX4_singLine_16 : decode cX4_singLine 16 = .ok (.lconst 0, 1) := dqr0 dqK_9 dqw_cX4_singLine_0 16 rfl rfl
theorem dX4_singLine_17 : decode cX4_singLine 17 = .ok (.lcmp, 1) := dqr0 dqK_148 dqw_cX4_singLine_0 17 rfl rfl
theorem dX4_singLine_18 : decode cX4_singLine 18 = .ok (.ifCond .eq 12, 3) := dqrs2 dqK_153 dqw_cX4_singLine_0 18 rfl rfl rfl rfl (by decide)
theorem dX4_singLine_21 : decode cX4_singLine 21 = .ok (.aload_n 0, 1) := dqr0 dqK_42 dqw_cX4_singLine_0 21 rfl rfl
theorem dqw_cX4_singLine_22 : dqLF cX4_singLine 22 [180, 0, 22, 16, 40, 161, 0, 5, 3, 172, 42, 180, 0, 19, 42, 180, 0, 22, 32, 42, 32, 184, 0, 120] := by decide +kernel
theorem dX4_singLine_22 : decode cX4_singLine 22 = .ok (.getfield 22, 3) := dqr2 dqK_180 dqw_cX4_singLine_22 0 rfl rfl rfl rfl rfl
theorem dX4_singLine_25 : decode cX4_singLine 25 = .ok (.bipush 40, 2) := dqrs1 dqK_16 dqw_cX4_singLine_22 3 rfl rfl rfl (by decide)
theorem dX4_singLine_27 : decode cX4_singLine 27 = .ok (.if_icmp .lt 5, 3) := dqrs2 dqK_161 dqw_cX4_singLine_22 5 rfl rfl rfl rfl (by decide)
theorem dX4_singLine_30 : decode cX4_singLine 30 = .ok (.iconst 0, 1) := dqr0 dqK_3 dqw_cX4_singLine_22 8 rfl rfl
theorem dX4_singLine_31 : decode cX4_singLine 31 = .ok (.ireturn, 1) := dqr0 dqK_172 dqw_cX4_singLine_22 9 rfl rfl
theorem dX4_singLine_32 : decode cX4_singLine 32 = .ok (.aload_n 0, 1) := dqr0 dqK_42 dqw_cX4_singLine_22 10 rfl rfl
theorem dX4_singLine_33 : decode cX4_singLine 33 = .ok (.getfield 19, 3) := dqr2 dqK_180 dqw_cX4_singLine_22 11 rfl rfl rfl rfl rfl
theorem dX4_singLine_36 : decode cX4_singLine 36 = .ok (.aload_n 0, 1) := dqr0 dqK_42 dqw_cX4_singLine_22 14 rfl rfl
theorem dX4_singLine_37 : decode cX4_singLine 37 = .ok (.getfield 22, 3) := dqr2 dqK_180 dqw_cX4_singLine_22 15 rfl rfl rfl rfl rfl
theorem dX4_singLine_40 : decode cX4_singLine 40 = .ok (.lload_n 2, 1) := dqr0 dqK_32 dqw_cX4_singLine_22 18 rfl rfl
theorem dX4_singLine_41 : decode cX4_singLine 41 = .ok (.aload_n 0, 1) := dqr0 dqK_42 dqw_cX4_singLine_22 19 rfl rfl
theorem dX4_singLine_42 : decode cX4_singLine 42 = .ok (.lload_n 2, 1) := dqr0 dqK_32 dqw_cX4_singLine_22 20 rfl rfl
theorem dX4_singLine_43 : decode cX4_singLine 43 = .ok (.invokestatic 120, 3) := dqr2 dqK_184 dqw_cX4_singLine_22 21 rfl rfl rfl rfl rfl
theorem dqw_cX4_singLine_46 : dqLF cX4_singLine 46 [182, 0, 110, 184, 0, 126, 79, 42, 89, 180, 0, 22, 4, 96, 181, 0, 22, 42, 89, 180, 0, 34, 4, 96] := by decide +kernel
theorem dX4_singLine_46 : decode cX4_singLine 46 = .ok (.invokevirtual 110, 3) := dqr2 dqK_182 dqw_cX4_singLine_46 0 rfl rfl rfl rfl rfl
theorem dX4_singLine_49 : decode cX4_singLine 49 = .ok (.invokestatic 126, 3) := dqr2 dqK_184 dqw_cX4_singLine_46 3 rfl rfl rfl rfl rfl
theorem dX4_singLine_52 : decode cX4_singLine 52 = .ok (.iastore, 1) := dqr0 dqK_79 dqw_cX4_singLine_46 6 rfl rfl
theorem dX4_singLine_53 : decode cX4_singLine 53 = .ok (.aload_n 0, 1) := dqr0 dqK_42 dqw_cX4_singLine_46 7 rfl rfl
theorem dX4_singLine_54 : decode cX4_singLine 54 = .ok (.dup, 1) := dqr0 dqK_89 dqw_cX4_singLine_46 8 rfl rfl
theorem dX4_singLine_55 : decode cX4_singLine 55 = .ok (.getfield 22, 3) := dqr2 dqK_180 dqw_cX4_singLine_46 9 rfl rfl rfl rfl rfl
theorem dX4_singLine_58 : decode cX4_singLine 58 = .ok (.iconst 1, 1) := dqr0 dqK_4 dqw_cX4_singLine_46 12 rfl rfl
theorem dX4_singLine_59 : decode cX4_singLine 59 = .ok (.iadd, 1) := dqr0 dqK_96 dqw_cX4_singLine_46 13 rfl rfl
theorem dX4_singLine_60 : decode cX4_singLine 60 = .ok (.putfield 22, 3) := dqr2 dqK_181 dqw_cX4_singLine_46 14 rfl rfl rfl rfl rfl
theorem dX4_singLine_63 : decode cX4_singLine 63 = .ok (.aload_n 0, 1) := dqr0 dqK_42 dqw_cX4_singLine_46 17 rfl rfl
theorem dX4_singLine_64 : decode cX4_singLine 64 = .ok (.dup, 1) := dqr0 dqK_89 dqw_cX4_singLine_46 18 rfl rfl
theorem dX4_singLine_65 : decode cX4_singLine 65 = .ok (.getfield 34, 3) := dqr2 dqK_180 dqw_cX4_singLine_46 19 rfl rfl rfl rfl rfl
theorem dX4_singLine_68 : decode cX4_singLine 68 = .ok (.iconst 1, 1) := dqr0 dqK_4 dqw_cX4_singLine_46 22 rfl rfl
theorem dX4_singLine_69 : decode cX4_singLine 69 = .ok (.iadd, 1) := dqr0 dqK_96 dqw_cX4_singLine_46 23 rfl rfl
theorem dqw_cX4_singLine_70 : dqLF cX4_singLine 70 [181, 0, 34, 4, 172] := by decide +kernel
theorem dX4_singLine_70 : decode cX4_singLine 70 = .ok (.putfield 34, 3) := dqr2 dqK_181 dqw_cX4_singLine_70 0 rfl rfl rfl rfl rfl
theorem dX4_singLine_73 : decode cX4_singLine 73 = .ok (.iconst 1, 1) := dqr0 dqK_4 dqw_cX4_singLine_70 3 rfl rfl
theorem dX4_singLine_74 : decode cX4_singLine 74 = .ok (.ireturn, 1) := dqr0 dqK_172 dqw_cX4_singLine_70 4 rfl rfl
theorem dqw_cX4_choose_0 : dqLF cX4_choose 0 [27, 4, 162, 0, 5, 3, 172, 42, 180, 0, 44, 27, 133, 113, 136, 61, 42, 89, 180, 0, 44, 27, 133, 109] := by decide +kernel
theorem dX4_choose_0 : decode cX4_choose 0 = .ok (.iload_n 1, 1) := dqr0 dqK_27 dqw_cX4_choose_0 0 rfl rfl
theorem dX4_choose_1 : decode cX4_choose 1 = .ok (.iconst 1, 1) := dqr0 dqK_4 dqw_cX4_choose_0 1 rfl rfl
theorem dX4_choose_2 : decode cX4_choose 2 = .ok (.if_icmp .ge 5, 3) := dqrs2 dqK_162 dqw_cX4_choose_0 2 rfl rfl rfl rfl (by decide)
theorem dX4_choose_5 : decode cX4_choose 5 = .ok (.iconst 0, 1) := dqr0 dqK_3 dqw_cX4_choose_0 5 rfl rfl
theorem dX4_choose_6 : decode cX4_choose 6 = .ok (.ireturn, 1) := dqr0 dqK_172 dqw_cX4_choose_0 6 rfl rfl
theorem dX4_choose_7 : decode cX4_choose 7 = .ok (.aload_n 0, 1) := dqr0 dqK_42 dqw_cX4_choose_0 7 rfl rfl
theorem dX4_choose_8 : decode cX4_choose 8 = .ok (.getfield 44, 3) := dqr2 dqK_180 dqw_cX4_choose_0 8 rfl rfl rfl rfl rfl
theorem dX4_choose_11 : decode cX4_choose 11 = .ok (.iload_n 1, 1) := dqr0 dqK_27 dqw_cX4_choose_0 11 rfl rfl
theorem dX4_choose_12 : decode cX4_choose 12 = .ok (.i2l, 1) := dqr0 dqK_133 dqw_cX4_choose_0 12 rfl rfl
theorem dX4_choose_13 : decode cX4_choose 13 = .ok (.lrem, 1) := dqr0 dqK_113 dqw_cX4_choose_0 13 rfl rfl
theorem dX4_choose_14 : decode cX4_choose 14 = .ok (.l2i, 1) := dqr0 dqK_136 dqw_cX4_choose_0 14 rfl rfl
theorem dX4_choose_15 : decode cX4_choose 15 = .ok (.istore_n 2, 1) := dqr0 dqK_61 dqw_cX4_choose_0 15 rfl rfl
theorem dX4_choose_16 : decode cX4_choose 16 = .ok (.aload_n 0, 1) := dqr0 dqK_42 dqw_cX4_choose_0 16 rfl rfl
theorem dX4_choose_17 : decode cX4_choose 17 = .ok (.dup, 1) := dqr0 dqK_89 dqw_cX4_choose_0 17 rfl rfl
theorem dX4_choose_18 : decode cX4_choose 18 = .ok (.getfield 44, 3) := dqr2 dqK_180 dqw_cX4_choose_0 18 rfl rfl rfl rfl rfl
theorem dX4_choose_21 : decode cX4_choose 21 = .ok (.iload_n 1, 1) := dqr0 dqK_27 dqw_cX4_choose_0 21 rfl rfl
theorem dX4_choose_22 : decode cX4_choose 22 = .ok (.i2l, 1) := dqr0 dqK_133 dqw_cX4_choose_0 22 rfl rfl
theorem dX4_choose_23 : decode cX4_choose 23 = .ok (.ldiv, 1) := dqr0 dqK_109 dqw_cX4_choose_0 23 rfl rfl
theorem dqw_cX4_choose_24 : dqLF cX4_choose 24 [181, 0, 44, 28, 172] := by decide +kernel
theorem dX4_choose_24 : decode cX4_choose 24 = .ok (.putfield 44, 3) := dqr2 dqK_181 dqw_cX4_choose_24 0 rfl rfl rfl rfl rfl
theorem dX4_choose_27 : decode cX4_choose 27 = .ok (.iload_n 2, 1) := dqr0 dqK_28 dqw_cX4_choose_24 3 rfl rfl
theorem dX4_choose_28 : decode cX4_choose 28 = .ok (.ireturn, 1) := dqr0 dqK_172 dqw_cX4_choose_24 4 rfl rfl
theorem dqw_cX5_init_0 : dqLF cX5_init 0 [42, 183, 0, 3, 42, 16, 40] := by decide +kernel
theorem dX5_init_0 : decode cX5_init 0 = .ok (.aload_n 0, 1) := dqr0 dqK_42 dqw_cX5_init_0 0 rfl rfl
theorem dX5_init_1 : decode cX5_init 1 = .ok (.invokespecial 3, 3) := dqr2 dqK_183 dqw_cX5_init_0 1 rfl rfl rfl rfl rfl
theorem dX5_init_4 : decode cX5_init 4 = .ok (.aload_n 0, 1) := dqr0 dqK_42 dqw_cX5_init_0 4 rfl rfl
theorem dX5_init_5 : decode cX5_init 5 = .ok (.bipush 40, 2) := dqrs1 dqK_16 dqw_cX5_init_0 5 rfl rfl rfl (by decide)
theorem dX5_init_7 : decode cX5_init 7 = .ok (.newarray .int, 2) := by decide +kernel
theorem dqw_cX5_init_9 : dqLF cX5_init 9 [181, 0, 9, 42, 16, 40] := by decide +kernel
theorem dX5_init_9 : decode cX5_init 9 = .ok (.putfield 9, 3) := dqr2 dqK_181 dqw_cX5_init_9 0 rfl rfl rfl rfl rfl
theorem dX5_init_12 : decode cX5_init 12 = .ok (.aload_n 0, 1) := dqr0 dqK_42 dqw_cX5_init_9 3 rfl rfl
theorem dX5_init_13 : decode cX5_init 13 = .ok (.bipush 40, 2) := dqrs1 dqK_16 dqw_cX5_init_9 4 rfl rfl rfl (by decide)
theorem dX5_init_15 : decode cX5_init 15 = .ok (.newarray .int, 2) := by decide +kernel
theorem dqw_cX5_init_17 : dqLF cX5_init 17 [181, 0, 15, 42, 16, 40] := by decide +kernel
theorem dX5_init_17 : decode cX5_init 17 = .ok (.putfield 15, 3) := dqr2 dqK_181 dqw_cX5_init_17 0 rfl rfl rfl rfl rfl
theorem dX5_init_20 : decode cX5_init 20 = .ok (.aload_n 0, 1) := dqr0 dqK_42 dqw_cX5_init_17 3 rfl rfl
theorem dX5_init_21 : decode cX5_init 21 = .ok (.bipush 40, 2) := dqrs1 dqK_16 dqw_cX5_init_17 4 rfl rfl rfl (by decide)
theorem dX5_init_23 : decode cX5_init 23 = .ok (.newarray .int, 2) := by decide +kernel
theorem dqw_cX5_init_25 : dqLF cX5_init 25 [181, 0, 18, 42, 3, 181, 0, 21, 42, 16, 10] := by decide +kernel
theorem dX5_init_25 : decode cX5_init 25 = .ok (.putfield 18, 3) := dqr2 dqK_181 dqw_cX5_init_25 0 rfl rfl rfl rfl rfl
theorem dX5_init_28 : decode cX5_init 28 = .ok (.aload_n 0, 1) := dqr0 dqK_42 dqw_cX5_init_25 3 rfl rfl
theorem dX5_init_29 : decode cX5_init 29 = .ok (.iconst 0, 1) := dqr0 dqK_3 dqw_cX5_init_25 4 rfl rfl
theorem dX5_init_30 : decode cX5_init 30 = .ok (.putfield 21, 3) := dqr2 dqK_181 dqw_cX5_init_25 5 rfl rfl rfl rfl rfl
theorem dX5_init_33 : decode cX5_init 33 = .ok (.aload_n 0, 1) := dqr0 dqK_42 dqw_cX5_init_25 8 rfl rfl
theorem dX5_init_34 : decode cX5_init 34 = .ok (.bipush 10, 2) := dqrs1 dqK_16 dqw_cX5_init_25 9 rfl rfl rfl (by decide)
theorem dX5_init_36 : decode cX5_init 36 = .ok (.newarray .int, 2) := by decide +kernel
theorem dqw_cX5_init_38 : dqLF cX5_init 38 [181, 0, 25, 42, 16, 10] := by decide +kernel
theorem dX5_init_38 : decode cX5_init 38 = .ok (.putfield 25, 3) := dqr2 dqK_181 dqw_cX5_init_38 0 rfl rfl rfl rfl rfl
theorem dX5_init_41 : decode cX5_init 41 = .ok (.aload_n 0, 1) := dqr0 dqK_42 dqw_cX5_init_38 3 rfl rfl
theorem dX5_init_42 : decode cX5_init 42 = .ok (.bipush 10, 2) := dqrs1 dqK_16 dqw_cX5_init_38 4 rfl rfl rfl (by decide)
theorem dX5_init_44 : decode cX5_init 44 = .ok (.newarray .int, 2) := by decide +kernel
theorem dqw_cX5_init_46 : dqLF cX5_init 46 [181, 0, 28, 42, 16, 40] := by decide +kernel
theorem dX5_init_46 : decode cX5_init 46 = .ok (.putfield 28, 3) := dqr2 dqK_181 dqw_cX5_init_46 0 rfl rfl rfl rfl rfl
theorem dX5_init_49 : decode cX5_init 49 = .ok (.aload_n 0, 1) := dqr0 dqK_42 dqw_cX5_init_46 3 rfl rfl
theorem dX5_init_50 : decode cX5_init 50 = .ok (.bipush 40, 2) := dqrs1 dqK_16 dqw_cX5_init_46 4 rfl rfl rfl (by decide)
theorem dX5_init_52 : decode cX5_init 52 = .ok (.newarray .int, 2) := by decide +kernel
theorem dqw_cX5_init_54 : dqLF cX5_init 54 [181, 0, 31, 42, 16, 40] := by decide +kernel
theorem dX5_init_54 : decode cX5_init 54 = .ok (.putfield 31, 3) := dqr2 dqK_181 dqw_cX5_init_54 0 rfl rfl rfl rfl rfl
theorem dX5_init_57 : decode cX5_init 57 = .ok (.aload_n 0, 1) := dqr0 dqK_42 dqw_cX5_init_54 3 rfl rfl
theorem dX5_init_58 : decode cX5_init 58 = .ok (.bipush 40, 2) := dqrs1 dqK_16 dqw_cX5_init_54 4 rfl rfl rfl (by decide)
theorem dX5_init_60 : decode cX5_init 60 = .ok (.newarray .int, 2) := by decide +kernel
theorem dqw_cX5_init_62 : dqLF cX5_init 62 [181, 0, 34, 42, 16, 40] := by decide +kernel
theorem dX5_init_62 : decode cX5_init 62 = .ok (.putfield 34, 3) := dqr2 dqK_181 dqw_cX5_init_62 0 rfl rfl rfl rfl rfl
theorem dX5_init_65 : decode cX5_init 65 = .ok (.aload_n 0, 1) := dqr0 dqK_42 dqw_cX5_init_62 3 rfl rfl
theorem dX5_init_66 : decode cX5_init 66 = .ok (.bipush 40, 2) := dqrs1 dqK_16 dqw_cX5_init_62 4 rfl rfl rfl (by decide)
theorem dX5_init_68 : decode cX5_init 68 = .ok (.newarray .int, 2) := by decide +kernel
theorem dqw_cX5_init_70 : dqLF cX5_init 70 [181, 0, 37, 42, 16, 40] := by decide +kernel
theorem dX5_init_70 : decode cX5_init 70 = .ok (.putfield 37, 3) := dqr2 dqK_181 dqw_cX5_init_70 0 rfl rfl rfl rfl rfl
theorem dX5_init_73 : decode cX5_init 73 = .ok (.aload_n 0, 1) := dqr0 dqK_42 dqw_cX5_init_70 3 rfl rfl
theorem dX5_init_74 : decode cX5_init 74 = .ok (.bipush 40, 2) := dqrs1 dqK_16 dqw_cX5_init_70 4 rfl rfl rfl (by decide)
theorem dX5_init_76 : decode cX5_init 76 = .ok (.newarray .int, 2) := by decide +kernel
theorem dqw_cX5_init_78 : dqLF cX5_init 78 [181, 0, 40, 42, 16, 8] := by decide +kernel
theorem dX5_init_78 : decode cX5_init 78 = .ok (.putfield 40, 3) := dqr2 dqK_181 dqw_cX5_init_78 0 rfl rfl rfl rfl rfl
theorem dX5_init_81 : decode cX5_init 81 = .ok (.aload_n 0, 1) := dqr0 dqK_42 dqw_cX5_init_78 3 rfl rfl
theorem dX5_init_82 : decode cX5_init 82 = .ok (.bipush 8, 2) := dqrs1 dqK_16 dqw_cX5_init_78 4 rfl rfl rfl (by decide)
theorem dX5_init_84 : decode cX5_init 84 = .ok (.newarray .long, 2) := by decide +kernel
theorem dqw_cX5_init_86 : dqLF cX5_init 86 [181, 0, 43, 42, 9, 181, 0, 47, 42, 3, 181, 0, 51, 42, 6] := by decide +kernel
theorem dX5_init_86 : decode cX5_init 86 = .ok (.putfield 43, 3) := dqr2 dqK_181 dqw_cX5_init_86 0 rfl rfl rfl rfl rfl
theorem dX5_init_89 : decode cX5_init 89 = .ok (.aload_n 0, 1) := dqr0 dqK_42 dqw_cX5_init_86 3 rfl rfl
theorem dX5_init_90 : decode cX5_init 90 = .ok (.lconst 0, 1) := dqr0 dqK_9 dqw_cX5_init_86 4 rfl rfl
theorem dX5_init_91 : decode cX5_init 91 = .ok (.putfield 47, 3) := dqr2 dqK_181 dqw_cX5_init_86 5 rfl rfl rfl rfl rfl
theorem dX5_init_94 : decode cX5_init 94 = .ok (.aload_n 0, 1) := dqr0 dqK_42 dqw_cX5_init_86 8 rfl rfl
theorem dX5_init_95 : decode cX5_init 95 = .ok (.iconst 0, 1) := dqr0 dqK_3 dqw_cX5_init_86 9 rfl rfl
theorem dX5_init_96 : decode cX5_init 96 = .ok (.putfield 51, 3) := dqr2 dqK_181 dqw_cX5_init_86 10 rfl rfl rfl rfl rfl
theorem dX5_init_99 : decode cX5_init 99 = .ok (.aload_n 0, 1) := dqr0 dqK_42 dqw_cX5_init_86 13 rfl rfl
theorem dX5_init_100 : decode cX5_init 100 = .ok (.iconst 3, 1) := dqr0 dqK_6 dqw_cX5_init_86 14 rfl rfl
theorem dX5_init_101 : decode cX5_init 101 = .ok (.newarray .int, 2) := by decide +kernel
theorem dqw_cX5_init_103 : dqLF cX5_init 103 [181, 0, 54, 42, 16, 40] := by decide +kernel
theorem dX5_init_103 : decode cX5_init 103 = .ok (.putfield 54, 3) := dqr2 dqK_181 dqw_cX5_init_103 0 rfl rfl rfl rfl rfl
theorem dX5_init_106 : decode cX5_init 106 = .ok (.aload_n 0, 1) := dqr0 dqK_42 dqw_cX5_init_103 3 rfl rfl
theorem dX5_init_107 : decode cX5_init 107 = .ok (.bipush 40, 2) := dqrs1 dqK_16 dqw_cX5_init_103 4 rfl rfl rfl (by decide)
theorem dX5_init_109 : decode cX5_init 109 = .ok (.newarray .int, 2) := by decide +kernel
theorem dqw_cX5_init_111 : dqLF cX5_init 111 [181, 0, 57, 42, 3, 181, 0, 60, 42, 180, 0, 25, 4, 184, 0, 63, 42, 180, 0, 54, 3, 7, 79, 42] := by decide +kernel
theorem dX5_init_111 : decode cX5_init 111 = .ok (.putfield 57, 3) := dqr2 dqK_181 dqw_cX5_init_111 0 rfl rfl rfl rfl rfl
theorem dX5_init_114 : decode cX5_init 114 = .ok (.aload_n 0, 1) := dqr0 dqK_42 dqw_cX5_init_111 3 rfl rfl
theorem dX5_init_115 : decode cX5_init 115 = .ok (.iconst 0, 1) := dqr0 dqK_3 dqw_cX5_init_111 4 rfl rfl
theorem dX5_init_116 : decode cX5_init 116 = .ok (.putfield 60, 3) := dqr2 dqK_181 dqw_cX5_init_111 5 rfl rfl rfl rfl rfl
theorem dX5_init_119 : decode cX5_init 119 = .ok (.aload_n 0, 1) := dqr0 dqK_42 dqw_cX5_init_111 8 rfl rfl
theorem dX5_init_120 : decode cX5_init 120 = .ok (.getfield 25, 3) := dqr2 dqK_180 dqw_cX5_init_111 9 rfl rfl rfl rfl rfl
theorem dX5_init_123 : decode cX5_init 123 = .ok (.iconst 1, 1) := dqr0 dqK_4 dqw_cX5_init_111 12 rfl rfl
theorem dX5_init_124 : decode cX5_init 124 = .ok (.invokestatic 63, 3) := dqr2 dqK_184 dqw_cX5_init_111 13 rfl rfl rfl rfl rfl
theorem dX5_init_127 : decode cX5_init 127 = .ok (.aload_n 0, 1) := dqr0 dqK_42 dqw_cX5_init_111 16 rfl rfl
theorem dX5_init_128 : decode cX5_init 128 = .ok (.getfield 54, 3) := dqr2 dqK_180 dqw_cX5_init_111 17 rfl rfl rfl rfl rfl
theorem dX5_init_131 : decode cX5_init 131 = .ok (.iconst 0, 1) := dqr0 dqK_3 dqw_cX5_init_111 20 rfl rfl
theorem dX5_init_132 : decode cX5_init 132 = .ok (.iconst 4, 1) := dqr0 dqK_7 dqw_cX5_init_111 21 rfl rfl
theorem dX5_init_133 : decode cX5_init 133 = .ok (.iastore, 1) := dqr0 dqK_79 dqw_cX5_init_111 22 rfl rfl
theorem dX5_init_134 : decode cX5_init 134 = .ok (.aload_n 0, 1) := dqr0 dqK_42 dqw_cX5_init_111 23 rfl rfl
theorem dqw_cX5_init_135 : dqLF cX5_init 135 [180, 0, 54, 4, 16, 6, 79, 177] := by decide +kernel
theorem dX5_init_135 : decode cX5_init 135 = .ok (.getfield 54, 3) := dqr2 dqK_180 dqw_cX5_init_135 0 rfl rfl rfl rfl rfl
theorem dX5_init_138 : decode cX5_init 138 = .ok (.iconst 1, 1) := dqr0 dqK_4 dqw_cX5_init_135 3 rfl rfl
theorem dX5_init_139 : decode cX5_init 139 = .ok (.bipush 6, 2) := dqrs1 dqK_16 dqw_cX5_init_135 4 rfl rfl rfl (by decide)
theorem dX5_init_141 : decode cX5_init 141 = .ok (.iastore, 1) := dqr0 dqK_79 dqw_cX5_init_135 6 rfl rfl
theorem dX5_init_142 : decode cX5_init 142 = .ok (.return_, 1) := dqr0 dqK_177 dqw_cX5_init_135 7 rfl rfl
theorem dqw_cX5_isHalf_0 : dqLF cX5_isHalf 0 [27, 155, 0, 15, 27, 42, 180, 0, 21, 162, 0, 7, 4, 167, 0, 4, 3, 172] := by decide +kernel
theorem dX5_isHalf_0 : decode cX5_isHalf 0 = .ok (.iload_n 1, 1) := dqr0 dqK_27 dqw_cX5_isHalf_0 0 rfl rfl
theorem dX5_isHalf_1 : decode cX5_isHalf 1 = .ok (.ifCond .lt 15, 3) := dqrs2 dqK_155 dqw_cX5_isHalf_0 1 rfl rfl rfl rfl (by decide)
theorem dX5_isHalf_4 : decode cX5_isHalf 4 = .ok (.iload_n 1, 1) := dqr0 dqK_27 dqw_cX5_isHalf_0 4 rfl rfl
theorem dX5_isHalf_5 : decode cX5_isHalf 5 = .ok (.aload_n 0, 1) := dqr0 dqK_42 dqw_cX5_isHalf_0 5 rfl rfl
theorem dX5_isHalf_6 : decode cX5_isHalf 6 = .ok (.getfield 21, 3) := dqr2 dqK_180 dqw_cX5_isHalf_0 6 rfl rfl rfl rfl rfl
theorem dX5_isHalf_9 : decode cX5_isHalf 9 = .ok (.if_icmp .ge 7, 3) := dqrs2 dqK_162 dqw_cX5_isHalf_0 9 rfl rfl rfl rfl (by decide)
theorem dX5_isHalf_12 : decode cX5_isHalf 12 = .ok (.iconst 1, 1) := dqr0 dqK_4 dqw_cX5_isHalf_0 12 rfl rfl
theorem dX5_isHalf_13 : decode cX5_isHalf 13 = .ok (.goto 4, 3) := dqrs2 dqK_167 dqw_cX5_isHalf_0 13 rfl rfl rfl rfl (by decide)
theorem dX5_isHalf_16 : decode cX5_isHalf 16 = .ok (.iconst 0, 1) := dqr0 dqK_3 dqw_cX5_isHalf_0 16 rfl rfl
theorem dX5_isHalf_17 : decode cX5_isHalf 17 = .ok (.ireturn, 1) := dqr0 dqK_172 dqw_cX5_isHalf_0 17 rfl rfl
theorem dqw_cX5_isLine_0 : dqLF cX5_isLine 0 [27, 155, 0, 15, 27, 42, 180, 0, 51, 162, 0, 7, 4, 167, 0, 4, 3, 172] := by decide +kernel
theorem dX5_isLine_0 : decode cX5_isLine 0 = .ok (.iload_n 1, 1) := dqr0 dqK_27 dqw_cX5_isLine_0 0 rfl rfl
theorem dX5_isLine_1 : decode cX5_isLine 1 = .ok (.ifCond .lt 15, 3) := dqrs2 dqK_155 dqw_cX5_isLine_0 1 rfl rfl rfl rfl (by decide)
theorem dX5_isLine_4 : decode cX5_isLine 4 = .ok (.iload_n 1, 1) := dqr0 dqK_27 dqw_cX5_isLine_0 4 rfl rfl
theorem dX5_isLine_5 : decode cX5_isLine 5 = .ok (.aload_n 0, 1) := dqr0 dqK_42 dqw_cX5_isLine_0 5 rfl rfl
theorem dX5_isLine_6 : decode cX5_isLine 6 = .ok (.getfield 51, 3) := dqr2 dqK_180 dqw_cX5_isLine_0 6 rfl rfl rfl rfl rfl
theorem dX5_isLine_9 : decode cX5_isLine 9 = .ok (.if_icmp .ge 7, 3) := dqrs2 dqK_162 dqw_cX5_isLine_0 9 rfl rfl rfl rfl (by decide)
theorem dX5_isLine_12 : decode cX5_isLine 12 = .ok (.iconst 1, 1) := dqr0 dqK_4 dqw_cX5_isLine_0 12 rfl rfl
theorem dX5_isLine_13 : decode cX5_isLine 13 = .ok (.goto 4, 3) := dqrs2 dqK_167 dqw_cX5_isLine_0 13 rfl rfl rfl rfl (by decide)
theorem dX5_isLine_16 : decode cX5_isLine 16 = .ok (.iconst 0, 1) := dqr0 dqK_3 dqw_cX5_isLine_0 16 rfl rfl
theorem dX5_isLine_17 : decode cX5_isLine 17 = .ok (.ireturn, 1) := dqr0 dqK_172 dqw_cX5_isLine_0 17 rfl rfl
theorem dqw_cX5_addHalf_0 : dqLF cX5_addHalf 0 [42, 180, 0, 9, 42, 180, 0, 21, 27, 79, 42, 180, 0, 15, 42, 180, 0, 21, 28, 79, 42, 180, 0, 18] := by decide +kernel
theorem dX5_addHalf_0 : decode cX5_addHalf 0 = .ok (.aload_n 0, 1) := dqr0 dqK_42 dqw_cX5_addHalf_0 0 rfl rfl
theorem dX5_addHalf_1 : decode cX5_addHalf 1 = .ok (.getfield 9, 3) := dqr2 dqK_180 dqw_cX5_addHalf_0 1 rfl rfl rfl rfl rfl
theorem dX5_addHalf_4 : decode cX5_addHalf 4 = .ok (.aload_n 0, 1) := dqr0 dqK_42 dqw_cX5_addHalf_0 4 rfl rfl
theorem dX5_addHalf_5 : decode cX5_addHalf 5 = .ok (.getfield 21, 3) := dqr2 dqK_180 dqw_cX5_addHalf_0 5 rfl rfl rfl rfl rfl
theorem dX5_addHalf_8 : decode cX5_addHalf 8 = .ok (.iload_n 1, 1) := dqr0 dqK_27 dqw_cX5_addHalf_0 8 rfl rfl
theorem dX5_addHalf_9 : decode cX5_addHalf 9 = .ok (.iastore, 1) := dqr0 dqK_79 dqw_cX5_addHalf_0 9 rfl rfl
theorem dX5_addHalf_10 : decode cX5_addHalf 10 = .ok (.aload_n 0, 1) := dqr0 dqK_42 dqw_cX5_addHalf_0 10 rfl rfl
theorem dX5_addHalf_11 : decode cX5_addHalf 11 = .ok (.getfield 15, 3) := dqr2 dqK_180 dqw_cX5_addHalf_0 11 rfl rfl rfl rfl rfl
theorem dX5_addHalf_14 : decode cX5_addHalf 14 = .ok (.aload_n 0, 1) := dqr0 dqK_42 dqw_cX5_addHalf_0 14 rfl rfl
theorem dX5_addHalf_15 : decode cX5_addHalf 15 = .ok (.getfield 21, 3) := dqr2 dqK_180 dqw_cX5_addHalf_0 15 rfl rfl rfl rfl rfl
theorem dX5_addHalf_18 : decode cX5_addHalf 18 = .ok (.iload_n 2, 1) := dqr0 dqK_28 dqw_cX5_addHalf_0 18 rfl rfl
theorem dX5_addHalf_19 : decode cX5_addHalf 19 = .ok (.iastore, 1) := dqr0 dqK_79 dqw_cX5_addHalf_0 19 rfl rfl
theorem dX5_addHalf_20 : decode cX5_addHalf 20 = .ok (.aload_n 0, 1) := dqr0 dqK_42 dqw_cX5_addHalf_0 20 rfl rfl
theorem dX5_addHalf_21 : decode cX5_addHalf 21 = .ok (.getfield 18, 3) := dqr2 dqK_180 dqw_cX5_addHalf_0 21 rfl rfl rfl rfl rfl
theorem dqw_cX5_addHalf_24 : dqLF cX5_addHalf 24 [42, 180, 0, 21, 29, 79, 42, 89, 180, 0, 21, 4, 96, 181, 0, 21, 42, 180, 0, 21, 4, 100, 172] := by decide +kernel
theorem dX5_addHalf_24 : decode cX5_addHalf 24 = .ok (.aload_n 0, 1) := dqr0 dqK_42 dqw_cX5_addHalf_24 0 rfl rfl
theorem dX5_addHalf_25 : decode cX5_addHalf 25 = .ok (.getfield 21, 3) := dqr2 dqK_180 dqw_cX5_addHalf_24 1 rfl rfl rfl rfl rfl
theorem dX5_addHalf_28 : decode cX5_addHalf 28 = .ok (.iload_n 3, 1) := dqr0 dqK_29 dqw_cX5_addHalf_24 4 rfl rfl
theorem dX5_addHalf_29 : decode cX5_addHalf 29 = .ok (.iastore, 1) := dqr0 dqK_79 dqw_cX5_addHalf_24 5 rfl rfl
theorem dX5_addHalf_30 : decode cX5_addHalf 30 = .ok (.aload_n 0, 1) := dqr0 dqK_42 dqw_cX5_addHalf_24 6 rfl rfl
theorem dX5_addHalf_31 : decode cX5_addHalf 31 = .ok (.dup, 1) := dqr0 dqK_89 dqw_cX5_addHalf_24 7 rfl rfl
theorem dX5_addHalf_32 : decode cX5_addHalf 32 = .ok (.getfield 21, 3) := dqr2 dqK_180 dqw_cX5_addHalf_24 8 rfl rfl rfl rfl rfl
theorem dX5_addHalf_35 : decode cX5_addHalf 35 = .ok (.iconst 1, 1) := dqr0 dqK_4 dqw_cX5_addHalf_24 11 rfl rfl
theorem dX5_addHalf_36 : decode cX5_addHalf 36 = .ok (.iadd, 1) := dqr0 dqK_96 dqw_cX5_addHalf_24 12 rfl rfl
theorem dX5_addHalf_37 : decode cX5_addHalf 37 = .ok (.putfield 21, 3) := dqr2 dqK_181 dqw_cX5_addHalf_24 13 rfl rfl rfl rfl rfl
theorem dX5_addHalf_40 : decode cX5_addHalf 40 = .ok (.aload_n 0, 1) := dqr0 dqK_42 dqw_cX5_addHalf_24 16 rfl rfl
theorem dX5_addHalf_41 : decode cX5_addHalf 41 = .ok (.getfield 21, 3) := dqr2 dqK_180 dqw_cX5_addHalf_24 17 rfl rfl rfl rfl rfl
theorem dX5_addHalf_44 : decode cX5_addHalf 44 = .ok (.iconst 1, 1) := dqr0 dqK_4 dqw_cX5_addHalf_24 20 rfl rfl
theorem dX5_addHalf_45 : decode cX5_addHalf 45 = .ok (.isub, 1) := dqr0 dqK_100 dqw_cX5_addHalf_24 21 rfl rfl
theorem dX5_addHalf_46 : decode cX5_addHalf 46 = .ok (.ireturn, 1) := dqr0 dqK_172 dqw_cX5_addHalf_24 22 rfl rfl
theorem dqw_cX5_addLine_0 : dqLF cX5_addLine 0 [42, 180, 0, 31, 42, 180, 0, 51, 27, 79, 42, 180, 0, 34, 42, 180, 0, 51, 28, 79, 42, 180, 0, 37] := by decide +kernel
theorem dX5_addLine_0 : decode cX5_addLine 0 = .ok (.aload_n 0, 1) := dqr0 dqK_42 dqw_cX5_addLine_0 0 rfl rfl
theorem dX5_addLine_1 : decode cX5_addLine 1 = .ok (.getfield 31, 3) := dqr2 dqK_180 dqw_cX5_addLine_0 1 rfl rfl rfl rfl rfl
theorem dX5_addLine_4 : decode cX5_addLine 4 = .ok (.aload_n 0, 1) := dqr0 dqK_42 dqw_cX5_addLine_0 4 rfl rfl
theorem dX5_addLine_5 : decode cX5_addLine 5 = .ok (.getfield 51, 3) := dqr2 dqK_180 dqw_cX5_addLine_0 5 rfl rfl rfl rfl rfl
theorem dX5_addLine_8 : decode cX5_addLine 8 = .ok (.iload_n 1, 1) := dqr0 dqK_27 dqw_cX5_addLine_0 8 rfl rfl
theorem dX5_addLine_9 : decode cX5_addLine 9 = .ok (.iastore, 1) := dqr0 dqK_79 dqw_cX5_addLine_0 9 rfl rfl
theorem dX5_addLine_10 : decode cX5_addLine 10 = .ok (.aload_n 0, 1) := dqr0 dqK_42 dqw_cX5_addLine_0 10 rfl rfl
theorem dX5_addLine_11 : decode cX5_addLine 11 = .ok (.getfield 34, 3) := dqr2 dqK_180 dqw_cX5_addLine_0 11 rfl rfl rfl rfl rfl
theorem dX5_addLine_14 : decode cX5_addLine 14 = .ok (.aload_n 0, 1) := dqr0 dqK_42 dqw_cX5_addLine_0 14 rfl rfl
theorem dX5_addLine_15 : decode cX5_addLine 15 = .ok (.getfield 51, 3) := dqr2 dqK_180 dqw_cX5_addLine_0 15 rfl rfl rfl rfl rfl
theorem dX5_addLine_18 : decode cX5_addLine 18 = .ok (.iload_n 2, 1) := dqr0 dqK_28 dqw_cX5_addLine_0 18 rfl rfl
theorem dX5_addLine_19 : decode cX5_addLine 19 = .ok (.iastore, 1) := dqr0 dqK_79 dqw_cX5_addLine_0 19 rfl rfl
theorem dX5_addLine_20 : decode cX5_addLine 20 = .ok (.aload_n 0, 1) := dqr0 dqK_42 dqw_cX5_addLine_0 20 rfl rfl
theorem dX5_addLine_21 : decode cX5_addLine 21 = .ok (.getfield 37, 3) := dqr2 dqK_180 dqw_cX5_addLine_0 21 rfl rfl rfl rfl rfl
theorem dqw_cX5_addLine_24 : dqLF cX5_addLine 24 [42, 180, 0, 51, 29, 79, 42, 180, 0, 40, 42, 180, 0, 51, 21, 4, 79, 42, 180, 0, 43, 29, 92, 47] := by decide +kernel
theorem dX5_addLine_24 : decode cX5_addLine 24 = .ok (.aload_n 0, 1) := dqr0 dqK_42 dqw_cX5_addLine_24 0 rfl rfl
theorem dX5_addLine_25 : decode cX5_addLine 25 = .ok (.getfield 51, 3) := dqr2 dqK_180 dqw_cX5_addLine_24 1 rfl rfl rfl rfl rfl
theorem dX5_addLine_28 : decode cX5_addLine 28 = .ok (.iload_n 3, 1) := dqr0 dqK_29 dqw_cX5_addLine_24 4 rfl rfl
theorem dX5_addLine_29 : decode cX5_addLine 29 = .ok (.iastore, 1) := dqr0 dqK_79 dqw_cX5_addLine_24 5 rfl rfl
theorem dX5_addLine_30 : decode cX5_addLine 30 = .ok (.aload_n 0, 1) := dqr0 dqK_42 dqw_cX5_addLine_24 6 rfl rfl
theorem dX5_addLine_31 : decode cX5_addLine 31 = .ok (.getfield 40, 3) := dqr2 dqK_180 dqw_cX5_addLine_24 7 rfl rfl rfl rfl rfl
theorem dX5_addLine_34 : decode cX5_addLine 34 = .ok (.aload_n 0, 1) := dqr0 dqK_42 dqw_cX5_addLine_24 10 rfl rfl
theorem dX5_addLine_35 : decode cX5_addLine 35 = .ok (.getfield 51, 3) := dqr2 dqK_180 dqw_cX5_addLine_24 11 rfl rfl rfl rfl rfl
theorem dX5_addLine_38 : decode cX5_addLine 38 = .ok (.iload 4, 2) := dqr1 dqK_21 dqw_cX5_addLine_24 14 rfl rfl rfl
theorem dX5_addLine_40 : decode cX5_addLine 40 = .ok (.iastore, 1) := dqr0 dqK_79 dqw_cX5_addLine_24 16 rfl rfl
theorem dX5_addLine_41 : decode cX5_addLine 41 = .ok (.aload_n 0, 1) := dqr0 dqK_42 dqw_cX5_addLine_24 17 rfl rfl
theorem dX5_addLine_42 : decode cX5_addLine 42 = .ok (.getfield 43, 3) := dqr2 dqK_180 dqw_cX5_addLine_24 18 rfl rfl rfl rfl rfl
theorem dX5_addLine_45 : decode cX5_addLine 45 = .ok (.iload_n 3, 1) := dqr0 dqK_29 dqw_cX5_addLine_24 21 rfl rfl
theorem dX5_addLine_46 : decode cX5_addLine 46 = .ok (.dup2, 1) := dqr0 dqK_92 dqw_cX5_addLine_24 22 rfl rfl
theorem dX5_addLine_47 : decode cX5_addLine 47 = .ok (.laload, 1) := dqr0 dqK_47 dqw_cX5_addLine_24 23 rfl rfl
theorem dqw_cX5_addLine_48 : dqLF cX5_addLine 48 [10, 42, 180, 0, 51, 121, 129, 80, 42, 89, 180, 0, 47, 21, 5, 133, 42, 180, 0, 51, 121, 129] := by decide +kernel
theorem dX5_addLine_48 : decode cX5_addLine 48 = .ok (.lconst 1, 1) := dqr0 dqK_10 dqw_cX5_addLine_48 0 rfl rfl
theorem dX5_addLine_49 : decode cX5_addLine 49 = .ok (.aload_n 0, 1) := dqr0 dqK_42 dqw_cX5_addLine_48 1 rfl rfl
theorem dX5_addLine_50 : decode cX5_addLine 50 = .ok (.getfield 51, 3) := dqr2 dqK_180 dqw_cX5_addLine_48 2 rfl rfl rfl rfl rfl
theorem dX5_addLine_53 : decode cX5_addLine 53 = .ok (.lshl, 1) := dqr0 dqK_121 dqw_cX5_addLine_48 5 rfl rfl
theorem dX5_addLine_54 : decode cX5_addLine 54 = .ok (.lor, 1) := dqr0 dqK_129 dqw_cX5_addLine_48 6 rfl rfl
theorem dX5_addLine_55 : decode cX5_addLine 55 = .ok (.lastore, 1) := dqr0 dqK_80 dqw_cX5_addLine_48 7 rfl rfl
theorem dX5_addLine_56 : decode cX5_addLine 56 = .ok (.aload_n 0, 1) := dqr0 dqK_42 dqw_cX5_addLine_48 8 rfl rfl
theorem dX5_addLine_57 : decode cX5_addLine 57 = .ok (.dup, 1) := dqr0 dqK_89 dqw_cX5_addLine_48 9 rfl rfl
theorem dX5_addLine_58 : decode cX5_addLine 58 = .ok (.getfield 47, 3) := dqr2 dqK_180 dqw_cX5_addLine_48 10 rfl rfl rfl rfl rfl
theorem dX5_addLine_61 : decode cX5_addLine 61 = .ok (.iload 5, 2) := dqr1 dqK_21 dqw_cX5_addLine_48 13 rfl rfl rfl
theorem dX5_addLine_63 : decode cX5_addLine 63 = .ok (.i2l, 1) := dqr0 dqK_133 dqw_cX5_addLine_48 15 rfl rfl
theorem dX5_addLine_64 : decode cX5_addLine 64 = .ok (.aload_n 0, 1) := dqr0 dqK_42 dqw_cX5_addLine_48 16 rfl rfl
theorem dX5_addLine_65 : decode cX5_addLine 65 = .ok (.getfield 51, 3) := dqr2 dqK_180 dqw_cX5_addLine_48 17 rfl rfl rfl rfl rfl
theorem dX5_addLine_68 : decode cX5_addLine 68 = .ok (.lshl, 1) := dqr0 dqK_121 dqw_cX5_addLine_48 20 rfl rfl
theorem dX5_addLine_69 : decode cX5_addLine 69 = .ok (.lor, 1) := dqr0 dqK_129 dqw_cX5_addLine_48 21 rfl rfl
theorem dqw_cX5_addLine_70 : dqLF cX5_addLine 70 [181, 0, 47, 42, 89, 180, 0, 51, 4, 96, 181, 0, 51, 42, 180, 0, 51, 4, 100, 172] := by decide +kernel
theorem dX5_addLine_70 : decode cX5_addLine 70 = .ok (.putfield 47, 3) := dqr2 dqK_181 dqw_cX5_addLine_70 0 rfl rfl rfl rfl rfl
theorem dX5_addLine_73 : decode cX5_addLine 73 = .ok (.aload_n 0, 1) := dqr0 dqK_42 dqw_cX5_addLine_70 3 rfl rfl
theorem dX5_addLine_74 : decode cX5_addLine 74 = .ok (.dup, 1) := dqr0 dqK_89 dqw_cX5_addLine_70 4 rfl rfl
theorem dX5_addLine_75 : decode cX5_addLine 75 = .ok (.getfield 51, 3) := dqr2 dqK_180 dqw_cX5_addLine_70 5 rfl rfl rfl rfl rfl
theorem dX5_addLine_78 : decode cX5_addLine 78 = .ok (.iconst 1, 1) := dqr0 dqK_4 dqw_cX5_addLine_70 8 rfl rfl
theorem dX5_addLine_79 : decode cX5_addLine 79 = .ok (.iadd, 1) := dqr0 dqK_96 dqw_cX5_addLine_70 9 rfl rfl
theorem dX5_addLine_80 : decode cX5_addLine 80 = .ok (.putfield 51, 3) := dqr2 dqK_181 dqw_cX5_addLine_70 10 rfl rfl rfl rfl rfl
theorem dX5_addLine_83 : decode cX5_addLine 83 = .ok (.aload_n 0, 1) := dqr0 dqK_42 dqw_cX5_addLine_70 13 rfl rfl
theorem dX5_addLine_84 : decode cX5_addLine 84 = .ok (.getfield 51, 3) := dqr2 dqK_180 dqw_cX5_addLine_70 14 rfl rfl rfl rfl rfl
theorem dX5_addLine_87 : decode cX5_addLine 87 = .ok (.iconst 1, 1) := dqr0 dqK_4 dqw_cX5_addLine_70 17 rfl rfl
theorem dX5_addLine_88 : decode cX5_addLine 88 = .ok (.isub, 1) := dqr0 dqK_100 dqw_cX5_addLine_70 18 rfl rfl
theorem dX5_addLine_89 : decode cX5_addLine 89 = .ok (.ireturn, 1) := dqr0 dqK_172 dqw_cX5_addLine_70 19 rfl rfl
theorem dqw_cX5_sungBeats_0 : dqLF cX5_sungBeats 0 [42, 180, 0, 18, 27, 46, 156, 0, 12, 42, 180, 0, 9, 27, 46, 167, 0, 16, 42, 180, 0, 9, 27, 46] := by decide +kernel
theorem dX5_sungBeats_0 : decode cX5_sungBeats 0 = .ok (.aload_n 0, 1) := dqr0 dqK_42 dqw_cX5_sungBeats_0 0 rfl rfl
theorem dX5_sungBeats_1 : decode cX5_sungBeats 1 = .ok (.getfield 18, 3) := dqr2 dqK_180 dqw_cX5_sungBeats_0 1 rfl rfl rfl rfl rfl
theorem dX5_sungBeats_4 : decode cX5_sungBeats 4 = .ok (.iload_n 1, 1) := dqr0 dqK_27 dqw_cX5_sungBeats_0 4 rfl rfl
theorem dX5_sungBeats_5 : decode cX5_sungBeats 5 = .ok (.iaload, 1) := dqr0 dqK_46 dqw_cX5_sungBeats_0 5 rfl rfl
theorem dX5_sungBeats_6 : decode cX5_sungBeats 6 = .ok (.ifCond .ge 12, 3) := dqrs2 dqK_156 dqw_cX5_sungBeats_0 6 rfl rfl rfl rfl (by decide)
theorem dX5_sungBeats_9 : decode cX5_sungBeats 9 = .ok (.aload_n 0, 1) := dqr0 dqK_42 dqw_cX5_sungBeats_0 9 rfl rfl
theorem dX5_sungBeats_10 : decode cX5_sungBeats 10 = .ok (.getfield 9, 3) := dqr2 dqK_180 dqw_cX5_sungBeats_0 10 rfl rfl rfl rfl rfl
theorem dX5_sungBeats_13 : decode cX5_sungBeats 13 = .ok (.iload_n 1, 1) := dqr0 dqK_27 dqw_cX5_sungBeats_0 13 rfl rfl
theorem dX5_sungBeats_14 : decode cX5_sungBeats 14 = .ok (.iaload, 1) := dqr0 dqK_46 dqw_cX5_sungBeats_0 14 rfl rfl
theorem dX5_sungBeats_15 : decode cX5_sungBeats 15 = .ok (.goto 16, 3) := dqrs2 dqK_167 dqw_cX5_sungBeats_0 15 rfl rfl rfl rfl (by decide)
theorem dX5_sungBeats_18 : decode cX5_sungBeats 18 = .ok (.aload_n 0, 1) := dqr0 dqK_42 dqw_cX5_sungBeats_0 18 rfl rfl
theorem dX5_sungBeats_19 : decode cX5_sungBeats 19 = .ok (.getfield 9, 3) := dqr2 dqK_180 dqw_cX5_sungBeats_0 19 rfl rfl rfl rfl rfl
theorem dX5_sungBeats_22 : decode cX5_sungBeats 22 = .ok (.iload_n 1, 1) := dqr0 dqK_27 dqw_cX5_sungBeats_0 22 rfl rfl
theorem dX5_sungBeats_23 : decode cX5_sungBeats 23 = .ok (.iaload, 1) := dqr0 dqK_46 dqw_cX5_sungBeats_0 23 rfl rfl
theorem dqw_cX5_sungBeats_24 : dqLF cX5_sungBeats 24 [42, 180, 0, 25, 28, 46, 96, 172] := by decide +kernel
theorem dX5_sungBeats_24 : decode cX5_sungBeats 24 = .ok (.aload_n 0, 1) := dqr0 dqK_42 dqw_cX5_sungBeats_24 0 rfl rfl
theorem dX5_sungBeats_25 : decode cX5_sungBeats 25 = .ok (.getfield 25, 3) := dqr2 dqK_180 dqw_cX5_sungBeats_24 1 rfl rfl rfl rfl rfl
theorem dX5_sungBeats_28 : decode cX5_sungBeats 28 = .ok (.iload_n 2, 1) := dqr0 dqK_28 dqw_cX5_sungBeats_24 4 rfl rfl
theorem dX5_sungBeats_29 : decode cX5_sungBeats 29 = .ok (.iaload, 1) := dqr0 dqK_46 dqw_cX5_sungBeats_24 5 rfl rfl
theorem dX5_sungBeats_30 : decode cX5_sungBeats 30 = .ok (.iadd, 1) := dqr0 dqK_96 dqw_cX5_sungBeats_24 6 rfl rfl
theorem dX5_sungBeats_31 : decode cX5_sungBeats 31 = .ok (.ireturn, 1) := dqr0 dqK_172 dqw_cX5_sungBeats_24 7 rfl rfl
theorem dqw_cX5_sungHeavy_0 : dqLF cX5_sungHeavy 0 [42, 180, 0, 18, 27, 46, 62, 42, 180, 0, 15, 27, 46, 54, 4, 29, 156, 0, 6, 21, 4, 172, 21, 4] := by decide +kernel
theorem dX5_sungHeavy_0 : decode cX5_sungHeavy 0 = .ok (.aload_n 0, 1) := dqr0 dqK_42 dqw_cX5_sungHeavy_0 0 rfl rfl
theorem dX5_sungHeavy_1 : decode cX5_sungHeavy 1 = .ok (.getfield 18, 3) := dqr2 dqK_180 dqw_cX5_sungHeavy_0 1 rfl rfl rfl rfl rfl
theorem dX5_sungHeavy_4 : decode cX5_sungHeavy 4 = .ok (.iload_n 1, 1) := dqr0 dqK_27 dqw_cX5_sungHeavy_0 4 rfl rfl
theorem dX5_sungHeavy_5 : decode cX5_sungHeavy 5 = .ok (.iaload, 1) := dqr0 dqK_46 dqw_cX5_sungHeavy_0 5 rfl rfl
theorem dX5_sungHeavy_6 : decode cX5_sungHeavy 6 = .ok (.istore_n 3, 1) := dqr0 dqK_62 dqw_cX5_sungHeavy_0 6 rfl rfl
theorem dX5_sungHeavy_7 : decode cX5_sungHeavy 7 = .ok (.aload_n 0, 1) := dqr0 dqK_42 dqw_cX5_sungHeavy_0 7 rfl rfl
theorem dX5_sungHeavy_8 : decode cX5_sungHeavy 8 = .ok (.getfield 15, 3) := dqr2 dqK_180 dqw_cX5_sungHeavy_0 8 rfl rfl rfl rfl rfl
theorem dX5_sungHeavy_11 : decode cX5_sungHeavy 11 = .ok (.iload_n 1, 1) := dqr0 dqK_27 dqw_cX5_sungHeavy_0 11 rfl rfl
theorem dX5_sungHeavy_12 : decode cX5_sungHeavy 12 = .ok (.iaload, 1) := dqr0 dqK_46 dqw_cX5_sungHeavy_0 12 rfl rfl
theorem dX5_sungHeavy_13 : decode cX5_sungHeavy 13 = .ok (.istore 4, 2) := dqr1 dqK_54 dqw_cX5_sungHeavy_0 13 rfl rfl rfl
theorem dX5_sungHeavy_15 : decode cX5_sungHeavy 15 = .ok (.iload_n 3, 1) := dqr0 dqK_29 dqw_cX5_sungHeavy_0 15 rfl rfl
theorem dX5_sungHeavy_16 : decode cX5_sungHeavy 16 = .ok (.ifCond .ge 6, 3) := dqrs2 dqK_156 dqw_cX5_sungHeavy_0 16 rfl rfl rfl rfl (by decide)
theorem dX5_sungHeavy_19 : decode cX5_sungHeavy 19 = .ok (.iload 4, 2) := dqr1 dqK_21 dqw_cX5_sungHeavy_0 19 rfl rfl rfl
theorem dX5_sungHeavy_21 : decode cX5_sungHeavy 21 = .ok (.ireturn, 1) := dqr0 dqK_172 dqw_cX5_sungHeavy_0 21 rfl rfl
theorem dX5_sungHeavy_22 : decode cX5_sungHeavy 22 = .ok (.iload 4, 2) := dqr1 dqK_21 dqw_cX5_sungHeavy_0 22 rfl rfl rfl
theorem dqw_cX5_sungHeavy_24 : dqLF cX5_sungHeavy 24 [4, 29, 120, 4, 100, 126, 54, 5, 21, 4, 29, 122, 54, 6, 21, 5, 42, 180, 0, 28, 28, 46, 29, 120] := by decide +kernel
theorem dX5_sungHeavy_24 : decode cX5_sungHeavy 24 = .ok (.iconst 1, 1) := dqr0 dqK_4 dqw_cX5_sungHeavy_24 0 rfl rfl
theorem dX5_sungHeavy_25 : decode cX5_sungHeavy 25 = .ok (.iload_n 3, 1) := dqr0 dqK_29 dqw_cX5_sungHeavy_24 1 rfl rfl
theorem dX5_sungHeavy_26 : decode cX5_sungHeavy 26 = .ok (.ishl, 1) := dqr0 dqK_120 dqw_cX5_sungHeavy_24 2 rfl rfl
theorem dX5_sungHeavy_27 : decode cX5_sungHeavy 27 = .ok (.iconst 1, 1) := dqr0 dqK_4 dqw_cX5_sungHeavy_24 3 rfl rfl
theorem dX5_sungHeavy_28 : decode cX5_sungHeavy 28 = .ok (.isub, 1) := dqr0 dqK_100 dqw_cX5_sungHeavy_24 4 rfl rfl
theorem dX5_sungHeavy_29 : decode cX5_sungHeavy 29 = .ok (.iand, 1) := dqr0 dqK_126 dqw_cX5_sungHeavy_24 5 rfl rfl
theorem dX5_sungHeavy_30 : decode cX5_sungHeavy 30 = .ok (.istore 5, 2) := dqr1 dqK_54 dqw_cX5_sungHeavy_24 6 rfl rfl rfl
theorem dX5_sungHeavy_32 : decode cX5_sungHeavy 32 = .ok (.iload 4, 2) := dqr1 dqK_21 dqw_cX5_sungHeavy_24 8 rfl rfl rfl
theorem dX5_sungHeavy_34 : decode cX5_sungHeavy 34 = .ok (.iload_n 3, 1) := dqr0 dqK_29 dqw_cX5_sungHeavy_24 10 rfl rfl
theorem dX5_sungHeavy_35 : decode cX5_sungHeavy 35 = .ok (.ishr, 1) := dqr0 dqK_122 dqw_cX5_sungHeavy_24 11 rfl rfl
theorem dX5_sungHeavy_36 : decode cX5_sungHeavy 36 = .ok (.istore 6, 2) := dqr1 dqK_54 dqw_cX5_sungHeavy_24 12 rfl rfl rfl
theorem dX5_sungHeavy_38 : decode cX5_sungHeavy 38 = .ok (.iload 5, 2) := dqr1 dqK_21 dqw_cX5_sungHeavy_24 14 rfl rfl rfl
theorem dX5_sungHeavy_40 : decode cX5_sungHeavy 40 = .ok (.aload_n 0, 1) := dqr0 dqK_42 dqw_cX5_sungHeavy_24 16 rfl rfl
theorem dX5_sungHeavy_41 : decode cX5_sungHeavy 41 = .ok (.getfield 28, 3) := dqr2 dqK_180 dqw_cX5_sungHeavy_24 17 rfl rfl rfl rfl rfl
theorem dX5_sungHeavy_44 : decode cX5_sungHeavy 44 = .ok (.iload_n 2, 1) := dqr0 dqK_28 dqw_cX5_sungHeavy_24 20 rfl rfl
theorem dX5_sungHeavy_45 : decode cX5_sungHeavy 45 = .ok (.iaload, 1) := dqr0 dqK_46 dqw_cX5_sungHeavy_24 21 rfl rfl
theorem dX5_sungHeavy_46 : decode cX5_sungHeavy 46 = .ok (.iload_n 3, 1) := dqr0 dqK_29 dqw_cX5_sungHeavy_24 22 rfl rfl
theorem dX5_sungHeavy_47 : decode cX5_sungHeavy 47 = .ok (.ishl, 1) := dqr0 dqK_120 dqw_cX5_sungHeavy_24 23 rfl rfl
theorem dqw_cX5_sungHeavy_48 : dqLF cX5_sungHeavy 48 [128, 21, 6, 29, 42, 180, 0, 25, 28, 46, 96, 120, 128, 172] := by decide +kernel
theorem dX5_sungHeavy_48 : decode cX5_sungHeavy 48 = .ok (.ior, 1) := dqr0 dqK_128 dqw_cX5_sungHeavy_48 0 rfl rfl
theorem dX5_sungHeavy_49 : decode cX5_sungHeavy 49 = .ok (.iload 6, 2) := dqr1 dqK_21 dqw_cX5_sungHeavy_48 1 rfl rfl rfl
theorem dX5_sungHeavy_51 : decode cX5_sungHeavy 51 = .ok (.iload_n 3, 1) := dqr0 dqK_29 dqw_cX5_sungHeavy_48 3 rfl rfl
theorem dX5_sungHeavy_52 : decode cX5_sungHeavy 52 = .ok (.aload_n 0, 1) := dqr0 dqK_42 dqw_cX5_sungHeavy_48 4 rfl rfl
theorem dX5_sungHeavy_53 : decode cX5_sungHeavy 53 = .ok (.getfield 25, 3) := dqr2 dqK_180 dqw_cX5_sungHeavy_48 5 rfl rfl rfl rfl rfl
theorem dX5_sungHeavy_56 : decode cX5_sungHeavy 56 = .ok (.iload_n 2, 1) := dqr0 dqK_28 dqw_cX5_sungHeavy_48 8 rfl rfl
theorem dX5_sungHeavy_57 : decode cX5_sungHeavy 57 = .ok (.iaload, 1) := dqr0 dqK_46 dqw_cX5_sungHeavy_48 9 rfl rfl
theorem dX5_sungHeavy_58 : decode cX5_sungHeavy 58 = .ok (.iadd, 1) := dqr0 dqK_96 dqw_cX5_sungHeavy_48 10 rfl rfl
theorem dX5_sungHeavy_59 : decode cX5_sungHeavy 59 = .ok (.ishl, 1) := dqr0 dqK_120 dqw_cX5_sungHeavy_48 11 rfl rfl
theorem dX5_sungHeavy_60 : decode cX5_sungHeavy 60 = .ok (.ior, 1) := dqr0 dqK_128 dqw_cX5_sungHeavy_48 12 rfl rfl
theorem dX5_sungHeavy_61 : decode cX5_sungHeavy 61 = .ok (.ireturn, 1) := dqr0 dqK_172 dqw_cX5_sungHeavy_48 13 rfl rfl
theorem dqw_cX5_lineBeats_0 : dqLF cX5_lineBeats 0 [42, 180, 0, 40, 27, 46, 61, 42, 42, 180, 0, 31, 27, 46, 28, 182, 0, 69, 42, 42, 180, 0, 34, 27] := by decide +kernel
theorem dX5_lineBeats_0 : decode cX5_lineBeats 0 = .ok (.aload_n 0, 1) := dqr0 dqK_42 dqw_cX5_lineBeats_0 0 rfl rfl
theorem dX5_lineBeats_1 : decode cX5_lineBeats 1 = .ok (.getfield 40, 3) := dqr2 dqK_180 dqw_cX5_lineBeats_0 1 rfl rfl rfl rfl rfl
theorem dX5_lineBeats_4 : decode cX5_lineBeats 4 = .ok (.iload_n 1, 1) := dqr0 dqK_27 dqw_cX5_lineBeats_0 4 rfl rfl
theorem dX5_lineBeats_5 : decode cX5_lineBeats 5 = .ok (.iaload, 1) := dqr0 dqK_46 dqw_cX5_lineBeats_0 5 rfl rfl
theorem dX5_lineBeats_6 : decode cX5_lineBeats 6 = .ok (.istore_n 2, 1) := dqr0 dqK_61 dqw_cX5_lineBeats_0 6 rfl rfl
theorem dX5_lineBeats_7 : decode cX5_lineBeats 7 = .ok (.aload_n 0, 1) := dqr0 dqK_42 dqw_cX5_lineBeats_0 7 rfl rfl
theorem dX5_lineBeats_8 : decode cX5_lineBeats 8 = .ok (.aload_n 0, 1) := dqr0 dqK_42 dqw_cX5_lineBeats_0 8 rfl rfl
theorem dX5_lineBeats_9 : decode cX5_lineBeats 9 = .ok (.getfield 31, 3) := dqr2 dqK_180 dqw_cX5_lineBeats_0 9 rfl rfl rfl rfl rfl
theorem dX5_lineBeats_12 : decode cX5_lineBeats 12 = .ok (.iload_n 1, 1) := dqr0 dqK_27 dqw_cX5_lineBeats_0 12 rfl rfl
theorem dX5_lineBeats_13 : decode cX5_lineBeats 13 = .ok (.iaload, 1) := dqr0 dqK_46 dqw_cX5_lineBeats_0 13 rfl rfl
theorem dX5_lineBeats_14 : decode cX5_lineBeats 14 = .ok (.iload_n 2, 1) := dqr0 dqK_28 dqw_cX5_lineBeats_0 14 rfl rfl
theorem dX5_lineBeats_15 : decode cX5_lineBeats 15 = .ok (.invokevirtual 69, 3) := dqr2 dqK_182 dqw_cX5_lineBeats_0 15 rfl rfl rfl rfl rfl
theorem dX5_lineBeats_18 : decode cX5_lineBeats 18 = .ok (.aload_n 0, 1) := dqr0 dqK_42 dqw_cX5_lineBeats_0 18 rfl rfl
theorem dX5_lineBeats_19 : decode cX5_lineBeats 19 = .ok (.aload_n 0, 1) := dqr0 dqK_42 dqw_cX5_lineBeats_0 19 rfl rfl
theorem dX5_lineBeats_20 : decode cX5_lineBeats 20 = .ok (.getfield 34, 3) := dqr2 dqK_180 dqw_cX5_lineBeats_0 20 rfl rfl rfl rfl rfl
theorem dX5_lineBeats_23 : decode cX5_lineBeats 23 = .ok (.iload_n 1, 1) := dqr0 dqK_27 dqw_cX5_lineBeats_0 23 rfl rfl
theorem dqw_cX5_lineBeats_24 : dqLF cX5_lineBeats 24 [46, 28, 182, 0, 69, 96, 172] := by decide +kernel
theorem dX5_lineBeats_24 : decode cX5_lineBeats 24 = .ok (.iaload, 1) := dqr0 dqK_46 dqw_cX5_lineBeats_24 0 rfl rfl
theorem dX5_lineBeats_25 : decode cX5_lineBeats 25 = .ok (.iload_n 2, 1) := dqr0 dqK_28 dqw_cX5_lineBeats_24 1 rfl rfl
theorem dX5_lineBeats_26 : decode cX5_lineBeats 26 = .ok (.invokevirtual 69, 3) := dqr2 dqK_182 dqw_cX5_lineBeats_24 2 rfl rfl rfl rfl rfl
theorem dX5_lineBeats_29 : decode cX5_lineBeats 29 = .ok (.iadd, 1) := dqr0 dqK_96 dqw_cX5_lineBeats_24 5 rfl rfl
theorem dX5_lineBeats_30 : decode cX5_lineBeats 30 = .ok (.ireturn, 1) := dqr0 dqK_172 dqw_cX5_lineBeats_24 6 rfl rfl
theorem dqw_cX5_lineHeavy_0 : dqLF cX5_lineHeavy 0 [42, 180, 0, 40, 27, 46, 61, 42, 42, 180, 0, 31, 27, 46, 28, 182, 0, 69, 62, 42, 42, 180, 0, 31] := by decide +kernel
theorem dX5_lineHeavy_0 : decode cX5_lineHeavy 0 = .ok (.aload_n 0, 1) := dqr0 dqK_42 dqw_cX5_lineHeavy_0 0 rfl rfl
theorem dX5_lineHeavy_1 : decode cX5_lineHeavy 1 = .ok (.getfield 40, 3) := dqr2 dqK_180 dqw_cX5_lineHeavy_0 1 rfl rfl rfl rfl rfl
theorem dX5_lineHeavy_4 : decode cX5_lineHeavy 4 = .ok (.iload_n 1, 1) := dqr0 dqK_27 dqw_cX5_lineHeavy_0 4 rfl rfl
theorem dX5_lineHeavy_5 : decode cX5_lineHeavy 5 = .ok (.iaload, 1) := dqr0 dqK_46 dqw_cX5_lineHeavy_0 5 rfl rfl
theorem dX5_lineHeavy_6 : decode cX5_lineHeavy 6 = .ok (.istore_n 2, 1) := dqr0 dqK_61 dqw_cX5_lineHeavy_0 6 rfl rfl
theorem dX5_lineHeavy_7 : decode cX5_lineHeavy 7 = .ok (.aload_n 0, 1) := dqr0 dqK_42 dqw_cX5_lineHeavy_0 7 rfl rfl
theorem dX5_lineHeavy_8 : decode cX5_lineHeavy 8 = .ok (.aload_n 0, 1) := dqr0 dqK_42 dqw_cX5_lineHeavy_0 8 rfl rfl
theorem dX5_lineHeavy_9 : decode cX5_lineHeavy 9 = .ok (.getfield 31, 3) := dqr2 dqK_180 dqw_cX5_lineHeavy_0 9 rfl rfl rfl rfl rfl
theorem dX5_lineHeavy_12 : decode cX5_lineHeavy 12 = .ok (.iload_n 1, 1) := dqr0 dqK_27 dqw_cX5_lineHeavy_0 12 rfl rfl
theorem dX5_lineHeavy_13 : decode cX5_lineHeavy 13 = .ok (.iaload, 1) := dqr0 dqK_46 dqw_cX5_lineHeavy_0 13 rfl rfl
theorem dX5_lineHeavy_14 : decode cX5_lineHeavy 14 = .ok (.iload_n 2, 1) := dqr0 dqK_28 dqw_cX5_lineHeavy_0 14 rfl rfl
theorem dX5_lineHeavy_15 : decode cX5_lineHeavy 15 = .ok (.invokevirtual 69, 3) := dqr2 dqK_182 dqw_cX5_lineHeavy_0 15 rfl rfl rfl rfl rfl
theorem dX5_lineHeavy_18 : decode cX5_lineHeavy 18 = .ok (.istore_n 3, 1) := dqr0 dqK_62 dqw_cX5_lineHeavy_0 18 rfl rfl
theorem dX5_lineHeavy_19 : decode cX5_lineHeavy 19 = .ok (.aload_n 0, 1) := dqr0 dqK_42 dqw_cX5_lineHeavy_0 19 rfl rfl
theorem dX5_lineHeavy_20 : decode cX5_lineHeavy 20 = .ok (.aload_n 0, 1) := dqr0 dqK_42 dqw_cX5_lineHeavy_0 20 rfl rfl
theorem dX5_lineHeavy_21 : decode cX5_lineHeavy 21 = .ok (.getfield 31, 3) := dqr2 dqK_180 dqw_cX5_lineHeavy_0 21 rfl rfl rfl rfl rfl
theorem dqw_cX5_lineHeavy_24 : dqLF cX5_lineHeavy 24 [27, 46, 28, 182, 0, 73, 42, 42, 180, 0, 34, 27, 46, 28, 182, 0, 73, 29, 120, 128, 172] := by decide +kernel
theorem dX5_lineHeavy_24 : decode cX5_lineHeavy 24 = .ok (.iload_n 1, 1) := dqr0 dqK_27 dqw_cX5_lineHeavy_24 0 rfl rfl
theorem dX5_lineHeavy_25 : decode cX5_lineHeavy 25 = .ok (.iaload, 1) := dqr0 dqK_46 dqw_cX5_lineHeavy_24 1 rfl rfl
theorem dX5_lineHeavy_26 : decode cX5_lineHeavy 26 = .ok (.iload_n 2, 1) := dqr0 dqK_28 dqw_cX5_lineHeavy_24 2 rfl rfl
theorem dX5_lineHeavy_27 : decode cX5_lineHeavy 27 = .ok (.invokevirtual 73, 3) := dqr2 dqK_182 dqw_cX5_lineHeavy_24 3 rfl rfl rfl rfl rfl
theorem dX5_lineHeavy_30 : decode cX5_lineHeavy 30 = .ok (.aload_n 0, 1) := dqr0 dqK_42 dqw_cX5_lineHeavy_24 6 rfl rfl
theorem dX5_lineHeavy_31 : decode cX5_lineHeavy 31 = .ok (.aload_n 0, 1) := dqr0 dqK_42 dqw_cX5_lineHeavy_24 7 rfl rfl
theorem dX5_lineHeavy_32 : decode cX5_lineHeavy 32 = .ok (.getfield 34, 3) := dqr2 dqK_180 dqw_cX5_lineHeavy_24 8 rfl rfl rfl rfl rfl
theorem dX5_lineHeavy_35 : decode cX5_lineHeavy 35 = .ok (.iload_n 1, 1) := dqr0 dqK_27 dqw_cX5_lineHeavy_24 11 rfl rfl
theorem dX5_lineHeavy_36 : decode cX5_lineHeavy 36 = .ok (.iaload, 1) := dqr0 dqK_46 dqw_cX5_lineHeavy_24 12 rfl rfl
theorem dX5_lineHeavy_37 : decode cX5_lineHeavy 37 = .ok (.iload_n 2, 1) := dqr0 dqK_28 dqw_cX5_lineHeavy_24 13 rfl rfl
theorem dX5_lineHeavy_38 : decode cX5_lineHeavy 38 = .ok (.invokevirtual 73, 3) := dqr2 dqK_182 dqw_cX5_lineHeavy_24 14 rfl rfl rfl rfl rfl
theorem dX5_lineHeavy_41 : decode cX5_lineHeavy 41 = .ok (.iload_n 3, 1) := dqr0 dqK_29 dqw_cX5_lineHeavy_24 17 rfl rfl
theorem dX5_lineHeavy_42 : decode cX5_lineHeavy 42 = .ok (.ishl, 1) := dqr0 dqK_120 dqw_cX5_lineHeavy_24 18 rfl rfl
theorem dX5_lineHeavy_43 : decode cX5_lineHeavy 43 = .ok (.ior, 1) := dqr0 dqK_128 dqw_cX5_lineHeavy_24 19 rfl rfl
theorem dX5_lineHeavy_44 : decode cX5_lineHeavy 44 = .ok (.ireturn, 1) := dqr0 dqK_172 dqw_cX5_lineHeavy_24 20 rfl rfl
theorem dqw_cX5_fitsFirst_0 : dqLF cX5_fitsFirst 0 [42, 180, 0, 54, 5, 46, 4, 42, 180, 0, 54, 3, 46, 120, 4, 100, 126, 62, 42, 27, 28, 182, 0, 69] := by decide +kernel
theorem dX5_fitsFirst_0 : decode cX5_fitsFirst 0 = .ok (.aload_n 0, 1) := dqr0 dqK_42 dqw_cX5_fitsFirst_0 0 rfl rfl
theorem dX5_fitsFirst_1 : decode cX5_fitsFirst 1 = .ok (.getfield 54, 3) := dqr2 dqK_180 dqw_cX5_fitsFirst_0 1 rfl rfl rfl rfl rfl
theorem dX5_fitsFirst_4 : decode cX5_fitsFirst 4 = .ok (.iconst 2, 1) := dqr0 dqK_5 dqw_cX5_fitsFirst_0 4 rfl rfl
theorem dX5_fitsFirst_5 : decode cX5_fitsFirst 5 = .ok (.iaload, 1) := dqr0 dqK_46 dqw_cX5_fitsFirst_0 5 rfl rfl
theorem dX5_fitsFirst_6 : decode cX5_fitsFirst 6 = .ok (.iconst 1, 1) := dqr0 dqK_4 dqw_cX5_fitsFirst_0 6 rfl rfl
theorem dX5_fitsFirst_7 : decode cX5_fitsFirst 7 = .ok (.aload_n 0, 1) := dqr0 dqK_42 dqw_cX5_fitsFirst_0 7 rfl rfl
theorem dX5_fitsFirst_8 : decode cX5_fitsFirst 8 = .ok (.getfield 54, 3) := dqr2 dqK_180 dqw_cX5_fitsFirst_0 8 rfl rfl rfl rfl rfl
theorem dX5_fitsFirst_11 : decode cX5_fitsFirst 11 = .ok (.iconst 0, 1) := dqr0 dqK_3 dqw_cX5_fitsFirst_0 11 rfl rfl
theorem dX5_fitsFirst_12 : decode cX5_fitsFirst 12 = .ok (.iaload, 1) := dqr0 dqK_46 dqw_cX5_fitsFirst_0 12 rfl rfl
theorem dX5_fitsFirst_13 : decode cX5_fitsFirst 13 = .ok (.ishl, 1) := dqr0 dqK_120 dqw_cX5_fitsFirst_0 13 rfl rfl
theorem dX5_fitsFirst_14 : decode cX5_fitsFirst 14 = .ok (.iconst 1, 1) := dqr0 dqK_4 dqw_cX5_fitsFirst_0 14 rfl rfl
theorem dX5_fitsFirst_15 : decode cX5_fitsFirst 15 = .ok (.isub, 1) := dqr0 dqK_100 dqw_cX5_fitsFirst_0 15 rfl rfl
theorem dX5_fitsFirst_16 : decode cX5_fitsFirst 16 = .ok (.iand, 1) := dqr0 dqK_126 dqw_cX5_fitsFirst_0 16 rfl rfl
theorem dX5_fitsFirst_17 : decode cX5_fitsFirst 17 = .ok (.istore_n 3, 1) := dqr0 dqK_62 dqw_cX5_fitsFirst_0 17 rfl rfl
theorem dX5_fitsFirst_18 : decode cX5_fitsFirst 18 = .ok (.aload_n 0, 1) := dqr0 dqK_42 dqw_cX5_fitsFirst_0 18 rfl rfl
theorem dX5_fitsFirst_19 : decode cX5_fitsFirst 19 = .ok (.iload_n 1, 1) := dqr0 dqK_27 dqw_cX5_fitsFirst_0 19 rfl rfl
theorem dX5_fitsFirst_20 : decode cX5_fitsFirst 20 = .ok (.iload_n 2, 1) := dqr0 dqK_28 dqw_cX5_fitsFirst_0 20 rfl rfl
theorem dX5_fitsFirst_21 : decode cX5_fitsFirst 21 = .ok (.invokevirtual 69, 3) := dqr2 dqK_182 dqw_cX5_fitsFirst_0 21 rfl rfl rfl rfl rfl
theorem dqw_cX5_fitsFirst_24 : dqLF cX5_fitsFirst 24 [42, 180, 0, 54, 3, 46, 160, 0, 20, 29, 42, 27, 28, 182, 0, 73, 2, 130, 126, 154, 0, 7, 4] := by decide +kernel
theorem dX5_fitsFirst_24 : decode cX5_fitsFirst 24 = .ok (.aload_n 0, 1) := dqr0 dqK_42 dqw_cX5_fitsFirst_24 0 rfl rfl
theorem dX5_fitsFirst_25 : decode cX5_fitsFirst 25 = .ok (.getfield 54, 3) := dqr2 dqK_180 dqw_cX5_fitsFirst_24 1 rfl rfl rfl rfl rfl
theorem dX5_fitsFirst_28 : decode cX5_fitsFirst 28 = .ok (.iconst 0, 1) := dqr0 dqK_3 dqw_cX5_fitsFirst_24 4 rfl rfl
theorem dX5_fitsFirst_29 : decode cX5_fitsFirst 29 = .ok (.iaload, 1) := dqr0 dqK_46 dqw_cX5_fitsFirst_24 5 rfl rfl
theorem dX5_fitsFirst_30 : decode cX5_fitsFirst 30 = .ok (.if_icmp .ne 20, 3) := dqrs2 dqK_160 dqw_cX5_fitsFirst_24 6 rfl rfl rfl rfl (by decide)
theorem dX5_fitsFirst_33 : decode cX5_fitsFirst 33 = .ok (.iload_n 3, 1) := dqr0 dqK_29 dqw_cX5_fitsFirst_24 9 rfl rfl
theorem dX5_fitsFirst_34 : decode cX5_fitsFirst 34 = .ok (.aload_n 0, 1) := dqr0 dqK_42 dqw_cX5_fitsFirst_24 10 rfl rfl
theorem dX5_fitsFirst_35 : decode cX5_fitsFirst 35 = .ok (.iload_n 1, 1) := dqr0 dqK_27 dqw_cX5_fitsFirst_24 11 rfl rfl
theorem dX5_fitsFirst_36 : decode cX5_fitsFirst 36 = .ok (.iload_n 2, 1) := dqr0 dqK_28 dqw_cX5_fitsFirst_24 12 rfl rfl
theorem dX5_fitsFirst_37 : decode cX5_fitsFirst 37 = .ok (.invokevirtual 73, 3) := dqr2 dqK_182 dqw_cX5_fitsFirst_24 13 rfl rfl rfl rfl rfl
theorem dX5_fitsFirst_40 : decode cX5_fitsFirst 40 = .ok (.iconst (-1), 1) := dqr0 dqK_2 dqw_cX5_fitsFirst_24 16 rfl rfl
theorem dX5_fitsFirst_41 : decode cX5_fitsFirst 41 = .ok (.ixor, 1) := dqr0 dqK_130 dqw_cX5_fitsFirst_24 17 rfl rfl
theorem dX5_fitsFirst_42 : decode cX5_fitsFirst 42 = .ok (.iand, 1) := dqr0 dqK_126 dqw_cX5_fitsFirst_24 18 rfl rfl
theorem dX5_fitsFirst_43 : decode cX5_fitsFirst 43 = .ok (.ifCond .ne 7, 3) := dqrs2 dqK_154 dqw_cX5_fitsFirst_24 19 rfl rfl rfl rfl (by decide)
theorem dX5_fitsFirst_46 : decode cX5_fitsFirst 46 = .ok (.iconst 1, 1) := dqr0 dqK_4 dqw_cX5_fitsFirst_24 22 rfl rfl
theorem dqw_cX5_fitsFirst_47 : dqLF cX5_fitsFirst 47 [167, 0, 4, 3, 172] := by decide +kernel
theorem dX5_fitsFirst_47 : decode cX5_fitsFirst 47 = .ok (.goto 4, 3) := dqrs2 dqK_167 dqw_cX5_fitsFirst_47 0 rfl rfl rfl rfl (by decide)
theorem dX5_fitsFirst_50 : decode cX5_fitsFirst 50 = .ok (.iconst 0, 1) := dqr0 dqK_3 dqw_cX5_fitsFirst_47 3 rfl rfl
theorem dX5_fitsFirst_51 : decode cX5_fitsFirst 51 = .ok (.ireturn, 1) := dqr0 dqK_172 dqw_cX5_fitsFirst_47 4 rfl rfl
theorem dqw_cX5_fitsSecond_0 : dqLF cX5_fitsSecond 0 [42, 180, 0, 54, 5, 46, 42, 180, 0, 54, 3, 46, 122, 62, 42, 27, 28, 182, 0, 69, 42, 180, 0, 54] := by decide +kernel
theorem dX5_fitsSecond_0 : decode cX5_fitsSecond 0 = .ok (.aload_n 0, 1) := dqr0 dqK_42 dqw_cX5_fitsSecond_0 0 rfl rfl
theorem dX5_fitsSecond_1 : decode cX5_fitsSecond 1 = .ok (.getfield 54, 3) := dqr2 dqK_180 dqw_cX5_fitsSecond_0 1 rfl rfl rfl rfl rfl
theorem dX5_fitsSecond_4 : decode cX5_fitsSecond 4 = .ok (.iconst 2, 1) := dqr0 dqK_5 dqw_cX5_fitsSecond_0 4 rfl rfl
theorem dX5_fitsSecond_5 : decode cX5_fitsSecond 5 = .ok (.iaload, 1) := dqr0 dqK_46 dqw_cX5_fitsSecond_0 5 rfl rfl
theorem dX5_fitsSecond_6 : decode cX5_fitsSecond 6 = .ok (.aload_n 0, 1) := dqr0 dqK_42 dqw_cX5_fitsSecond_0 6 rfl rfl
theorem dX5_fitsSecond_7 : decode cX5_fitsSecond 7 = .ok (.getfield 54, 3) := dqr2 dqK_180 dqw_cX5_fitsSecond_0 7 rfl rfl rfl rfl rfl
theorem dX5_fitsSecond_10 : decode cX5_fitsSecond 10 = .ok (.iconst 0, 1) := dqr0 dqK_3 dqw_cX5_fitsSecond_0 10 rfl rfl
theorem dX5_fitsSecond_11 : decode cX5_fitsSecond 11 = .ok (.iaload, 1) := dqr0 dqK_46 dqw_cX5_fitsSecond_0 11 rfl rfl
theorem dX5_fitsSecond_12 : decode cX5_fitsSecond 12 = .ok (.ishr, 1) := dqr0 dqK_122 dqw_cX5_fitsSecond_0 12 rfl rfl
theorem dX5_fitsSecond_13 : decode cX5_fitsSecond 13 = .ok (.istore_n 3, 1) := dqr0 dqK_62 dqw_cX5_fitsSecond_0 13 rfl rfl
theorem dX5_fitsSecond_14 : decode cX5_fitsSecond 14 = .ok (.aload_n 0, 1) := dqr0 dqK_42 dqw_cX5_fitsSecond_0 14 rfl rfl
theorem dX5_fitsSecond_15 : decode cX5_fitsSecond 15 = .ok (.iload_n 1, 1) := dqr0 dqK_27 dqw_cX5_fitsSecond_0 15 rfl rfl
theorem dX5_fitsSecond_16 : decode cX5_fitsSecond 16 = .ok (.iload_n 2, 1) := dqr0 dqK_28 dqw_cX5_fitsSecond_0 16 rfl rfl
theorem dX5_fitsSecond_17 : decode cX5_fitsSecond 17 = .ok (.invokevirtual 69, 3) := dqr2 dqK_182 dqw_cX5_fitsSecond_0 17 rfl rfl rfl rfl rfl
theorem dX5_fitsSecond_20 : decode cX5_fitsSecond 20 = .ok (.aload_n 0, 1) := dqr0 dqK_42 dqw_cX5_fitsSecond_0 20 rfl rfl
theorem dX5_fitsSecond_21 : decode cX5_fitsSecond 21 = .ok (.getfield 54, 3) := dqr2 dqK_180 dqw_cX5_fitsSecond_0 21 rfl rfl rfl rfl rfl
theorem dqw_cX5_fitsSecond_24 : dqLF cX5_fitsSecond 24 [4, 46, 160, 0, 20, 29, 42, 27, 28, 182, 0, 73, 2, 130, 126, 154, 0, 7, 4, 167, 0, 4, 3, 172] := by decide +kernel
theorem dX5_fitsSecond_24 : decode cX5_fitsSecond 24 = .ok (.iconst 1, 1) := dqr0 dqK_4 dqw_cX5_fitsSecond_24 0 rfl rfl
theorem dX5_fitsSecond_25 : decode cX5_fitsSecond 25 = .ok (.iaload, 1) := dqr0 dqK_46 dqw_cX5_fitsSecond_24 1 rfl rfl
theorem dX5_fitsSecond_26 : decode cX5_fitsSecond 26 = .ok (.if_icmp .ne 20, 3) := dqrs2 dqK_160 dqw_cX5_fitsSecond_24 2 rfl rfl rfl rfl (by decide)
theorem dX5_fitsSecond_29 : decode cX5_fitsSecond 29 = .ok (.iload_n 3, 1) := dqr0 dqK_29 dqw_cX5_fitsSecond_24 5 rfl rfl
theorem dX5_fitsSecond_30 : decode cX5_fitsSecond 30 = .ok (.aload_n 0, 1) := dqr0 dqK_42 dqw_cX5_fitsSecond_24 6 rfl rfl
theorem dX5_fitsSecond_31 : decode cX5_fitsSecond 31 = .ok (.iload_n 1, 1) := dqr0 dqK_27 dqw_cX5_fitsSecond_24 7 rfl rfl
theorem dX5_fitsSecond_32 : decode cX5_fitsSecond 32 = .ok (.iload_n 2, 1) := dqr0 dqK_28 dqw_cX5_fitsSecond_24 8 rfl rfl
theorem dX5_fitsSecond_33 : decode cX5_fitsSecond 33 = .ok (.invokevirtual 73, 3) := dqr2 dqK_182 dqw_cX5_fitsSecond_24 9 rfl rfl rfl rfl rfl
theorem dX5_fitsSecond_36 : decode cX5_fitsSecond 36 = .ok (.iconst (-1), 1) := dqr0 dqK_2 dqw_cX5_fitsSecond_24 12 rfl rfl
theorem dX5_fitsSecond_37 : decode cX5_fitsSecond 37 = .ok (.ixor, 1) := dqr0 dqK_130 dqw_cX5_fitsSecond_24 13 rfl rfl
theorem dX5_fitsSecond_38 : decode cX5_fitsSecond 38 = .ok (.iand, 1) := dqr0 dqK_126 dqw_cX5_fitsSecond_24 14 rfl rfl
theorem dX5_fitsSecond_39 : decode cX5_fitsSecond 39 = .ok (.ifCond .ne 7, 3) := dqrs2 dqK_154 dqw_cX5_fitsSecond_24 15 rfl rfl rfl rfl (by decide)
theorem dX5_fitsSecond_42 : decode cX5_fitsSecond 42 = .ok (.iconst 1, 1) := dqr0 dqK_4 dqw_cX5_fitsSecond_24 18 rfl rfl
theorem dX5_fitsSecond_43 : decode cX5_fitsSecond 43 = .ok (.goto 4, 3) := dqrs2 dqK_167 dqw_cX5_fitsSecond_24 19 rfl rfl rfl rfl (by decide)
theorem dX5_fitsSecond_46 : decode cX5_fitsSecond 46 = .ok (.iconst 0, 1) := dqr0 dqK_3 dqw_cX5_fitsSecond_24 22 rfl rfl
theorem dX5_fitsSecond_47 : decode cX5_fitsSecond 47 = .ok (.ireturn, 1) := dqr0 dqK_172 dqw_cX5_fitsSecond_24 23 rfl rfl
theorem dqw_cX5_scans_0 : dqLF cX5_scans 0 [42, 180, 0, 40, 27, 46, 61, 42, 42, 180, 0, 31, 27, 46, 28, 182, 0, 76, 153, 0, 21, 42, 42] := by decide +kernel
theorem dX5_scans_0 : decode cX5_scans 0 = .ok (.aload_n 0, 1) := dqr0 dqK_42 dqw_cX5_scans_0 0 rfl rfl
theorem dX5_scans_1 : decode cX5_scans 1 = .ok (.getfield 40, 3) := dqr2 dqK_180 dqw_cX5_scans_0 1 rfl rfl rfl rfl rfl
theorem dX5_scans_4 : decode cX5_scans 4 = .ok (.iload_n 1, 1) := dqr0 dqK_27 dqw_cX5_scans_0 4 rfl rfl
theorem dX5_scans_5 : decode cX5_scans 5 = .ok (.iaload, 1) := dqr0 dqK_46 dqw_cX5_scans_0 5 rfl rfl
theorem dX5_scans_6 : decode cX5_scans 6 = .ok (.istore_n 2, 1) := dqr0 dqK_61 dqw_cX5_scans_0 6 rfl rfl
theorem dX5_scans_7 : decode cX5_scans 7 = .ok (.aload_n 0, 1) := dqr0 dqK_42 dqw_cX5_scans_0 7 rfl rfl
theorem dX5_scans_8 : decode cX5_scans 8 = .ok (.aload_n 0, 1) := dqr0 dqK_42 dqw_cX5_scans_0 8 rfl rfl
theorem dX5_scans_9 : decode cX5_scans 9 = .ok (.getfield 31, 3) := dqr2 dqK_180 dqw_cX5_scans_0 9 rfl rfl rfl rfl rfl
theorem dX5_scans_12 : decode cX5_scans 12 = .ok (.iload_n 1, 1) := dqr0 dqK_27 dqw_cX5_scans_0 12 rfl rfl
theorem dX5_scans_13 : decode cX5_scans 13 = .ok (.iaload, 1) := dqr0 dqK_46 dqw_cX5_scans_0 13 rfl rfl
theorem dX5_scans_14 : decode cX5_scans 14 = .ok (.iload_n 2, 1) := dqr0 dqK_28 dqw_cX5_scans_0 14 rfl rfl
theorem dX5_scans_15 : decode cX5_scans 15 = .ok (.invokevirtual 76, 3) := dqr2 dqK_182 dqw_cX5_scans_0 15 rfl rfl rfl rfl rfl
theorem dX5_scans_18 : decode cX5_scans 18 = .ok (.ifCond .eq 21, 3) := dqrs2 dqK_153 dqw_cX5_scans_0 18 rfl rfl rfl rfl (by decide)
theorem dX5_scans_21 : decode cX5_scans 21 = .ok (.aload_n 0, 1) := dqr0 dqK_42 dqw_cX5_scans_0 21 rfl rfl
theorem dX5_scans_22 : decode cX5_scans 22 = .ok (.aload_n 0, 1) := dqr0 dqK_42 dqw_cX5_scans_0 22 rfl rfl
theorem dqw_cX5_scans_23 : dqLF cX5_scans 23 [180, 0, 34, 27, 46, 28, 182, 0, 80, 153, 0, 7, 4, 167, 0, 4, 3, 172] := by decide +kernel
theorem dX5_scans_23 : decode cX5_scans 23 = .ok (.getfield 34, 3) := dqr2 dqK_180 dqw_cX5_scans_23 0 rfl rfl rfl rfl rfl
theorem dX5_scans_26 : decode cX5_scans 26 = .ok (.iload_n 1, 1) := dqr0 dqK_27 dqw_cX5_scans_23 3 rfl rfl
theorem dX5_scans_27 : decode cX5_scans 27 = .ok (.iaload, 1) := dqr0 dqK_46 dqw_cX5_scans_23 4 rfl rfl
theorem dX5_scans_28 : decode cX5_scans 28 = .ok (.iload_n 2, 1) := dqr0 dqK_28 dqw_cX5_scans_23 5 rfl rfl
theorem dX5_scans_29 : decode cX5_scans 29 = .ok (.invokevirtual 80, 3) := dqr2 dqK_182 dqw_cX5_scans_23 6 rfl rfl rfl rfl rfl
theorem dX5_scans_32 : decode cX5_scans 32 = .ok (.ifCond .eq 7, 3) := dqrs2 dqK_153 dqw_cX5_scans_23 9 rfl rfl rfl rfl (by decide)
theorem dX5_scans_35 : decode cX5_scans 35 = .ok (.iconst 1, 1) := dqr0 dqK_4 dqw_cX5_scans_23 12 rfl rfl
theorem dX5_scans_36 : decode cX5_scans 36 = .ok (.goto 4, 3) := dqrs2 dqK_167 dqw_cX5_scans_23 13 rfl rfl rfl rfl (by decide)
theorem dX5_scans_39 : decode cX5_scans 39 = .ok (.iconst 0, 1) := dqr0 dqK_3 dqw_cX5_scans_23 16 rfl rfl
theorem dX5_scans_40 : decode cX5_scans 40 = .ok (.ireturn, 1) := dqr0 dqK_172 dqw_cX5_scans_23 17 rfl rfl
theorem dqw_cX5_scanning_0 : dqLF cX5_scanning 0 [3, 60, 3, 61, 28, 42, 180, 0, 51, 162, 0, 20, 42, 28, 182, 0, 83, 153, 0, 6, 132, 1, 1] := by decide +kernel
theorem dX5_scanning_0 : decode cX5_scanning 0 = .ok (.iconst 0, 1) := dqr0 dqK_3 dqw_cX5_scanning_0 0 rfl rfl
theorem dX5_scanning_1 : decode cX5_scanning 1 = .ok (.istore_n 1, 1) := dqr0 dqK_60 dqw_cX5_scanning_0 1 rfl rfl
theorem dX5_scanning_2 : decode cX5_scanning 2 = .ok (.iconst 0, 1) := dqr0 dqK_3 dqw_cX5_scanning_0 2 rfl rfl
theorem dX5_scanning_3 : decode cX5_scanning 3 = .ok (.istore_n 2, 1) := dqr0 dqK_61 dqw_cX5_scanning_0 3 rfl rfl
theorem dX5_scanning_4 : decode cX5_scanning 4 = .ok (.iload_n 2, 1) := dqr0 dqK_28 dqw_cX5_scanning_0 4 rfl rfl
theorem dX5_scanning_5 : decode cX5_scanning 5 = .ok (.aload_n 0, 1) := dqr0 dqK_42 dqw_cX5_scanning_0 5 rfl rfl
theorem dX5_scanning_6 : decode cX5_scanning 6 = .ok (.getfield 51, 3) := dqr2 dqK_180 dqw_cX5_scanning_0 6 rfl rfl rfl rfl rfl
theorem dX5_scanning_9 : decode cX5_scanning 9 = .ok (.if_icmp .ge 20, 3) := dqrs2 dqK_162 dqw_cX5_scanning_0 9 rfl rfl rfl rfl (by decide)
theorem dX5_scanning_12 : decode cX5_scanning 12 = .ok (.aload_n 0, 1) := dqr0 dqK_42 dqw_cX5_scanning_0 12 rfl rfl
theorem dX5_scanning_13 : decode cX5_scanning 13 = .ok (.iload_n 2, 1) := dqr0 dqK_28 dqw_cX5_scanning_0 13 rfl rfl
theorem dX5_scanning_14 : decode cX5_scanning 14 = .ok (.invokevirtual 83, 3) := dqr2 dqK_182 dqw_cX5_scanning_0 14 rfl rfl rfl rfl rfl
theorem dX5_scanning_17 : decode cX5_scanning 17 = .ok (.ifCond .eq 6, 3) := dqrs2 dqK_153 dqw_cX5_scanning_0 17 rfl rfl rfl rfl (by decide)
theorem dX5_scanning_20 : decode cX5_scanning 20 = .ok (.iinc 1 1, 3) := dqri dqK_132 dqw_cX5_scanning_0 20 rfl rfl rfl rfl (by decide)
theorem dqw_cX5_scanning_23 : dqLF cX5_scanning 23 [132, 2, 1, 167, 255, 234, 27, 172] := by decide +kernel
theorem dX5_scanning_23 : decode cX5_scanning 23 = .ok (.iinc 2 1, 3) := dqri dqK_132 dqw_cX5_scanning_23 0 rfl rfl rfl rfl (by decide)
theorem dX5_scanning_26 : decode cX5_scanning 26 = .ok (.goto (-22), 3) := dqrs2 dqK_167 dqw_cX5_scanning_23 3 rfl rfl rfl rfl (by decide)
theorem dX5_scanning_29 : decode cX5_scanning 29 = .ok (.iload_n 1, 1) := dqr0 dqK_27 dqw_cX5_scanning_23 6 rfl rfl
theorem dX5_scanning_30 : decode cX5_scanning 30 = .ok (.ireturn, 1) := dqr0 dqK_172 dqw_cX5_scanning_23 7 rfl rfl
theorem dqw_cX5_leastFirst_0 : dqLF cX5_leastFirst 0 [3, 61, 28, 42, 180, 0, 21, 162, 0, 20, 42, 28, 27, 182, 0, 76, 153, 0, 5, 28, 172, 132, 2, 1] := by decide +kernel
theorem dX5_leastFirst_0 : decode cX5_leastFirst 0 = .ok (.iconst 0, 1) := dqr0 dqK_3 dqw_cX5_leastFirst_0 0 rfl rfl
theorem dX5_leastFirst_1 : decode cX5_leastFirst 1 = .ok (.istore_n 2, 1) := dqr0 dqK_61 dqw_cX5_leastFirst_0 1 rfl rfl
theorem dX5_leastFirst_2 : decode cX5_leastFirst 2 = .ok (.iload_n 2, 1) := dqr0 dqK_28 dqw_cX5_leastFirst_0 2 rfl rfl
theorem dX5_leastFirst_3 : decode cX5_leastFirst 3 = .ok (.aload_n 0, 1) := dqr0 dqK_42 dqw_cX5_leastFirst_0 3 rfl rfl
theorem dX5_leastFirst_4 : decode cX5_leastFirst 4 = .ok (.getfield 21, 3) := dqr2 dqK_180 dqw_cX5_leastFirst_0 4 rfl rfl rfl rfl rfl
theorem dX5_leastFirst_7 : decode cX5_leastFirst 7 = .ok (.if_icmp .ge 20, 3) := dqrs2 dqK_162 dqw_cX5_leastFirst_0 7 rfl rfl rfl rfl (by decide)
theorem dX5_leastFirst_10 : decode cX5_leastFirst 10 = .ok (.aload_n 0, 1) := dqr0 dqK_42 dqw_cX5_leastFirst_0 10 rfl rfl
theorem dX5_leastFirst_11 : decode cX5_leastFirst 11 = .ok (.iload_n 2, 1) := dqr0 dqK_28 dqw_cX5_leastFirst_0 11 rfl rfl
theorem dX5_leastFirst_12 : decode cX5_leastFirst 12 = .ok (.iload_n 1, 1) := dqr0 dqK_27 dqw_cX5_leastFirst_0 12 rfl rfl
theorem dX5_leastFirst_13 : decode cX5_leastFirst 13 = .ok (.invokevirtual 76, 3) := dqr2 dqK_182 dqw_cX5_leastFirst_0 13 rfl rfl rfl rfl rfl
theorem dX5_leastFirst_16 : decode cX5_leastFirst 16 = .ok (.ifCond .eq 5, 3) := dqrs2 dqK_153 dqw_cX5_leastFirst_0 16 rfl rfl rfl rfl (by decide)
theorem dX5_leastFirst_19 : decode cX5_leastFirst 19 = .ok (.iload_n 2, 1) := dqr0 dqK_28 dqw_cX5_leastFirst_0 19 rfl rfl
theorem dX5_leastFirst_20 : decode cX5_leastFirst 20 = .ok (.ireturn, 1) := dqr0 dqK_172 dqw_cX5_leastFirst_0 20 rfl rfl
theorem dX5_leastFirst_21 : decode cX5_leastFirst 21 = .ok (.iinc 2 1, 3) := dqri dqK_132 dqw_cX5_leastFirst_0 21 rfl rfl rfl rfl (by decide)
theorem dqw_cX5_leastFirst_24 : dqLF cX5_leastFirst 24 [167, 255, 234, 2, 172] := by decide +kernel
theorem dX5_leastFirst_24 : decode cX5_leastFirst 24 = .ok (.goto (-22), 3) := dqrs2 dqK_167 dqw_cX5_leastFirst_24 0 rfl rfl rfl rfl (by decide)
theorem dX5_leastFirst_27 : decode cX5_leastFirst 27 = .ok (.iconst (-1), 1) := dqr0 dqK_2 dqw_cX5_leastFirst_24 3 rfl rfl
theorem dX5_leastFirst_28 : decode cX5_leastFirst 28 = .ok (.ireturn, 1) := dqr0 dqK_172 dqw_cX5_leastFirst_24 4 rfl rfl
theorem dqw_cX5_leastSecond_0 : dqLF cX5_leastSecond 0 [3, 61, 28, 42, 180, 0, 21, 162, 0, 20, 42, 28, 27, 182, 0, 80, 153, 0, 5, 28, 172, 132, 2, 1] := by decide +kernel
theorem dX5_leastSecond_0 : decode cX5_leastSecond 0 = .ok (.iconst 0, 1) := dqr0 dqK_3 dqw_cX5_leastSecond_0 0 rfl rfl
theorem dX5_leastSecond_1 : decode cX5_leastSecond 1 = .ok (.istore_n 2, 1) := dqr0 dqK_61 dqw_cX5_leastSecond_0 1 rfl rfl
theorem dX5_leastSecond_2 : decode cX5_leastSecond 2 = .ok (.iload_n 2, 1) := dqr0 dqK_28 dqw_cX5_leastSecond_0 2 rfl rfl
theorem dX5_leastSecond_3 : decode cX5_leastSecond 3 = .ok (.aload_n 0, 1) := dqr0 dqK_42 dqw_cX5_leastSecond_0 3 rfl rfl
theorem dX5_leastSecond_4 : decode cX5_leastSecond 4 = .ok (.getfield 21, 3) := dqr2 dqK_180 dqw_cX5_leastSecond_0 4 rfl rfl rfl rfl rfl
theorem dX5_leastSecond_7 : decode cX5_leastSecond 7 = .ok (.if_icmp .ge 20, 3) := dqrs2 dqK_162 dqw_cX5_leastSecond_0 7 rfl rfl rfl rfl (by decide)
theorem dX5_leastSecond_10 : decode cX5_leastSecond 10 = .ok (.aload_n 0, 1) := dqr0 dqK_42 dqw_cX5_leastSecond_0 10 rfl rfl
theorem dX5_leastSecond_11 : decode cX5_leastSecond 11 = .ok (.iload_n 2, 1) := dqr0 dqK_28 dqw_cX5_leastSecond_0 11 rfl rfl
theorem dX5_leastSecond_12 : decode cX5_leastSecond 12 = .ok (.iload_n 1, 1) := dqr0 dqK_27 dqw_cX5_leastSecond_0 12 rfl rfl
theorem dX5_leastSecond_13 : decode cX5_leastSecond 13 = .ok (.invokevirtual 80, 3) := dqr2 dqK_182 dqw_cX5_leastSecond_0 13 rfl rfl rfl rfl rfl
theorem dX5_leastSecond_16 : decode cX5_leastSecond 16 = .ok (.ifCond .eq 5, 3) := dqrs2 dqK_153 dqw_cX5_leastSecond_0 16 rfl rfl rfl rfl (by decide)
theorem dX5_leastSecond_19 : decode cX5_leastSecond 19 = .ok (.iload_n 2, 1) := dqr0 dqK_28 dqw_cX5_leastSecond_0 19 rfl rfl
theorem dX5_leastSecond_20 : decode cX5_leastSecond 20 = .ok (.ireturn, 1) := dqr0 dqK_172 dqw_cX5_leastSecond_0 20 rfl rfl
theorem dX5_leastSecond_21 : decode cX5_leastSecond 21 = .ok (.iinc 2 1, 3) := dqri dqK_132 dqw_cX5_leastSecond_0 21 rfl rfl rfl rfl (by decide)
theorem dqw_cX5_leastSecond_24 : dqLF cX5_leastSecond 24 [167, 255, 234, 2, 172] := by decide +kernel
theorem dX5_leastSecond_24 : decode cX5_leastSecond 24 = .ok (.goto (-22), 3) := dqrs2 dqK_167 dqw_cX5_leastSecond_24 0 rfl rfl rfl rfl (by decide)
theorem dX5_leastSecond_27 : decode cX5_leastSecond 27 = .ok (.iconst (-1), 1) := dqr0 dqK_2 dqw_cX5_leastSecond_24 3 rfl rfl
theorem dX5_leastSecond_28 : decode cX5_leastSecond 28 = .ok (.ireturn, 1) := dqr0 dqK_172 dqw_cX5_leastSecond_24 4 rfl rfl
theorem dqw_cX5_putInPlace_0 : dqLF cX5_putInPlace 0 [42, 28, 182, 0, 87, 62, 42, 28, 182, 0, 91, 54, 4, 3, 54, 5, 42, 3, 181, 0, 60, 3, 54, 6] := by decide +kernel
theorem dX5_putInPlace_0 : decode cX5_putInPlace 0 = .ok (.aload_n 0, 1) := dqr0 dqK_42 dqw_cX5_putInPlace_0 0 rfl rfl
theorem dX5_putInPlace_1 : decode cX5_putInPlace 1 = .ok (.iload_n 2, 1) := dqr0 dqK_28 dqw_cX5_putInPlace_0 1 rfl rfl
theorem dX5_putInPlace_2 : decode cX5_putInPlace 2 = .ok (.invokevirtual 87, 3) := dqr2 dqK_182 dqw_cX5_putInPlace_0 2 rfl rfl rfl rfl rfl
theorem dX5_putInPlace_5 : decode cX5_putInPlace 5 = .ok (.istore_n 3, 1) := dqr0 dqK_62 dqw_cX5_putInPlace_0 5 rfl rfl
theorem dX5_putInPlace_6 : decode cX5_putInPlace 6 = .ok (.aload_n 0, 1) := dqr0 dqK_42 dqw_cX5_putInPlace_0 6 rfl rfl
theorem dX5_putInPlace_7 : decode cX5_putInPlace 7 = .ok (.iload_n 2, 1) := dqr0 dqK_28 dqw_cX5_putInPlace_0 7 rfl rfl
theorem dX5_putInPlace_8 : decode cX5_putInPlace 8 = .ok (.invokevirtual 91, 3) := dqr2 dqK_182 dqw_cX5_putInPlace_0 8 rfl rfl rfl rfl rfl
theorem dX5_putInPlace_11 : decode cX5_putInPlace 11 = .ok (.istore 4, 2) := dqr1 dqK_54 dqw_cX5_putInPlace_0 11 rfl rfl rfl
theorem dX5_putInPlace_13 : decode cX5_putInPlace 13 = .ok (.iconst 0, 1) := dqr0 dqK_3 dqw_cX5_putInPlace_0 13 rfl rfl
theorem dX5_putInPlace_14 : decode cX5_putInPlace 14 = .ok (.istore 5, 2) := dqr1 dqK_54 dqw_cX5_putInPlace_0 14 rfl rfl rfl
theorem dX5_putInPlace_16 : decode cX5_putInPlace 16 = .ok (.aload_n 0, 1) := dqr0 dqK_42 dqw_cX5_putInPlace_0 16 rfl rfl
theorem dX5_putInPlace_17 : decode cX5_putInPlace 17 = .ok (.iconst 0, 1) := dqr0 dqK_3 dqw_cX5_putInPlace_0 17 rfl rfl
theorem dX5_putInPlace_18 : decode cX5_putInPlace 18 = .ok (.putfield 60, 3) := dqr2 dqK_181 dqw_cX5_putInPlace_0 18 rfl rfl rfl rfl rfl
theorem dX5_putInPlace_21 : decode cX5_putInPlace 21 = .ok (.iconst 0, 1) := dqr0 dqK_3 dqw_cX5_putInPlace_0 21 rfl rfl
theorem dX5_putInPlace_22 : decode cX5_putInPlace 22 = .ok (.istore 6, 2) := dqr1 dqK_54 dqw_cX5_putInPlace_0 22 rfl rfl rfl
theorem dqw_cX5_putInPlace_24 : dqLF cX5_putInPlace 24 [21, 6, 42, 180, 0, 51, 162, 0, 61, 42, 180, 0, 40, 21, 6, 46, 27, 160, 0, 44, 42, 180, 0, 40] := by decide +kernel
theorem dX5_putInPlace_24 : decode cX5_putInPlace 24 = .ok (.iload 6, 2) := dqr1 dqK_21 dqw_cX5_putInPlace_24 0 rfl rfl rfl
theorem dX5_putInPlace_26 : decode cX5_putInPlace 26 = .ok (.aload_n 0, 1) := dqr0 dqK_42 dqw_cX5_putInPlace_24 2 rfl rfl
theorem dX5_putInPlace_27 : decode cX5_putInPlace 27 = .ok (.getfield 51, 3) := dqr2 dqK_180 dqw_cX5_putInPlace_24 3 rfl rfl rfl rfl rfl
theorem dX5_putInPlace_30 : decode cX5_putInPlace 30 = .ok (.if_icmp .ge 61, 3) := dqrs2 dqK_162 dqw_cX5_putInPlace_24 6 rfl rfl rfl rfl (by decide)
theorem dX5_putInPlace_33 : decode cX5_putInPlace 33 = .ok (.aload_n 0, 1) := dqr0 dqK_42 dqw_cX5_putInPlace_24 9 rfl rfl
theorem dX5_putInPlace_34 : decode cX5_putInPlace 34 = .ok (.getfield 40, 3) := dqr2 dqK_180 dqw_cX5_putInPlace_24 10 rfl rfl rfl rfl rfl
theorem dX5_putInPlace_37 : decode cX5_putInPlace 37 = .ok (.iload 6, 2) := dqr1 dqK_21 dqw_cX5_putInPlace_24 13 rfl rfl rfl
theorem dX5_putInPlace_39 : decode cX5_putInPlace 39 = .ok (.iaload, 1) := dqr0 dqK_46 dqw_cX5_putInPlace_24 15 rfl rfl
theorem dX5_putInPlace_40 : decode cX5_putInPlace 40 = .ok (.iload_n 1, 1) := dqr0 dqK_27 dqw_cX5_putInPlace_24 16 rfl rfl
theorem dX5_putInPlace_41 : decode cX5_putInPlace 41 = .ok (.if_icmp .ne 44, 3) := dqrs2 dqK_160 dqw_cX5_putInPlace_24 17 rfl rfl rfl rfl (by decide)
theorem dX5_putInPlace_44 : decode cX5_putInPlace 44 = .ok (.aload_n 0, 1) := dqr0 dqK_42 dqw_cX5_putInPlace_24 20 rfl rfl
theorem dX5_putInPlace_45 : decode cX5_putInPlace 45 = .ok (.getfield 40, 3) := dqr2 dqK_180 dqw_cX5_putInPlace_24 21 rfl rfl rfl rfl rfl
theorem dqw_cX5_putInPlace_48 : dqLF cX5_putInPlace 48 [21, 6, 28, 79, 42, 21, 6, 182, 0, 83, 154, 0, 27, 42, 21, 6, 29, 21, 4, 182, 0, 94] := by decide +kernel
theorem dX5_putInPlace_48 : decode cX5_putInPlace 48 = .ok (.iload 6, 2) := dqr1 dqK_21 dqw_cX5_putInPlace_48 0 rfl rfl rfl
theorem dX5_putInPlace_50 : decode cX5_putInPlace 50 = .ok (.iload_n 2, 1) := dqr0 dqK_28 dqw_cX5_putInPlace_48 2 rfl rfl
theorem dX5_putInPlace_51 : decode cX5_putInPlace 51 = .ok (.iastore, 1) := dqr0 dqK_79 dqw_cX5_putInPlace_48 3 rfl rfl
theorem dX5_putInPlace_52 : decode cX5_putInPlace 52 = .ok (.aload_n 0, 1) := dqr0 dqK_42 dqw_cX5_putInPlace_48 4 rfl rfl
theorem dX5_putInPlace_53 : decode cX5_putInPlace 53 = .ok (.iload 6, 2) := dqr1 dqK_21 dqw_cX5_putInPlace_48 5 rfl rfl rfl
theorem dX5_putInPlace_55 : decode cX5_putInPlace 55 = .ok (.invokevirtual 83, 3) := dqr2 dqK_182 dqw_cX5_putInPlace_48 7 rfl rfl rfl rfl rfl
theorem dX5_putInPlace_58 : decode cX5_putInPlace 58 = .ok (.ifCond .ne 27, 3) := dqrs2 dqK_154 dqw_cX5_putInPlace_48 10 rfl rfl rfl rfl (by decide)
theorem dX5_putInPlace_61 : decode cX5_putInPlace 61 = .ok (.aload_n 0, 1) := dqr0 dqK_42 dqw_cX5_putInPlace_48 13 rfl rfl
theorem dX5_putInPlace_62 : decode cX5_putInPlace 62 = .ok (.iload 6, 2) := dqr1 dqK_21 dqw_cX5_putInPlace_48 14 rfl rfl rfl
theorem dX5_putInPlace_64 : decode cX5_putInPlace 64 = .ok (.iload_n 3, 1) := dqr0 dqK_29 dqw_cX5_putInPlace_48 16 rfl rfl
theorem dX5_putInPlace_65 : decode cX5_putInPlace 65 = .ok (.iload 4, 2) := dqr1 dqK_21 dqw_cX5_putInPlace_48 17 rfl rfl rfl
theorem dX5_putInPlace_67 : decode cX5_putInPlace 67 = .ok (.invokevirtual 94, 3) := dqr2 dqK_182 dqw_cX5_putInPlace_48 19 rfl rfl rfl rfl rfl
theorem dqw_cX5_putInPlace_70 : dqLF cX5_putInPlace 70 [153, 0, 9, 132, 5, 1, 167, 0, 9, 42, 21, 6, 182, 0, 98, 132, 6, 1, 167, 255, 192, 21, 5, 172] := by decide +kernel
theorem dX5_putInPlace_70 : decode cX5_putInPlace 70 = .ok (.ifCond .eq 9, 3) := dqrs2 dqK_153 dqw_cX5_putInPlace_70 0 rfl rfl rfl rfl (by decide)
theorem dX5_putInPlace_73 : decode cX5_putInPlace 73 = .ok (.iinc 5 1, 3) := dqri dqK_132 dqw_cX5_putInPlace_70 3 rfl rfl rfl rfl (by decide)
theorem dX5_putInPlace_76 : decode cX5_putInPlace 76 = .ok (.goto 9, 3) := dqrs2 dqK_167 dqw_cX5_putInPlace_70 6 rfl rfl rfl rfl (by decide)
theorem dX5_putInPlace_79 : decode cX5_putInPlace 79 = .ok (.aload_n 0, 1) := dqr0 dqK_42 dqw_cX5_putInPlace_70 9 rfl rfl
theorem dX5_putInPlace_80 : decode cX5_putInPlace 80 = .ok (.iload 6, 2) := dqr1 dqK_21 dqw_cX5_putInPlace_70 10 rfl rfl rfl
theorem dX5_putInPlace_82 : decode cX5_putInPlace 82 = .ok (.invokevirtual 98, 3) := dqr2 dqK_182 dqw_cX5_putInPlace_70 12 rfl rfl rfl rfl rfl
theorem dX5_putInPlace_85 : decode cX5_putInPlace 85 = .ok (.iinc 6 1, 3) := dqri dqK_132 dqw_cX5_putInPlace_70 15 rfl rfl rfl rfl (by decide)
theorem dX5_putInPlace_88 : decode cX5_putInPlace 88 = .ok (.goto (-64), 3) := dqrs2 dqK_167 dqw_cX5_putInPlace_70 18 rfl rfl rfl rfl (by decide)
theorem dX5_putInPlace_91 : decode cX5_putInPlace 91 = .ok (.iload 5, 2) := dqr1 dqK_21 dqw_cX5_putInPlace_70 21 rfl rfl rfl
theorem dX5_putInPlace_93 : decode cX5_putInPlace 93 = .ok (.ireturn, 1) := dqr0 dqK_172 dqw_cX5_putInPlace_70 23 rfl rfl
theorem dqw_cX5_mend_0 : dqLF cX5_mend 0 [28, 2, 159, 0, 8, 29, 2, 160, 0, 5, 3, 172, 42, 180, 0, 40, 27, 46, 54, 4, 42, 42] := by decide +kernel
theorem dX5_mend_0 : decode cX5_mend 0 = .ok (.iload_n 2, 1) := dqr0 dqK_28 dqw_cX5_mend_0 0 rfl rfl
theorem dX5_mend_1 : decode cX5_mend 1 = .ok (.iconst (-1), 1) := dqr0 dqK_2 dqw_cX5_mend_0 1 rfl rfl
theorem dX5_mend_2 : decode cX5_mend 2 = .ok (.if_icmp .eq 8, 3) := dqrs2 dqK_159 dqw_cX5_mend_0 2 rfl rfl rfl rfl (by decide)
theorem dX5_mend_5 : decode cX5_mend 5 = .ok (.iload_n 3, 1) := dqr0 dqK_29 dqw_cX5_mend_0 5 rfl rfl
theorem dX5_mend_6 : decode cX5_mend 6 = .ok (.iconst (-1), 1) := dqr0 dqK_2 dqw_cX5_mend_0 6 rfl rfl
theorem dX5_mend_7 : decode cX5_mend 7 = .ok (.if_icmp .ne 5, 3) := dqrs2 dqK_160 dqw_cX5_mend_0 7 rfl rfl rfl rfl (by decide)
theorem dX5_mend_10 : decode cX5_mend 10 = .ok (.iconst 0, 1) := dqr0 dqK_3 dqw_cX5_mend_0 10 rfl rfl
theorem dX5_mend_11 : decode cX5_mend 11 = .ok (.ireturn, 1) := dqr0 dqK_172 dqw_cX5_mend_0 11 rfl rfl
theorem dX5_mend_12 : decode cX5_mend 12 = .ok (.aload_n 0, 1) := dqr0 dqK_42 dqw_cX5_mend_0 12 rfl rfl
theorem dX5_mend_13 : decode cX5_mend 13 = .ok (.getfield 40, 3) := dqr2 dqK_180 dqw_cX5_mend_0 13 rfl rfl rfl rfl rfl
theorem dX5_mend_16 : decode cX5_mend 16 = .ok (.iload_n 1, 1) := dqr0 dqK_27 dqw_cX5_mend_0 16 rfl rfl
theorem dX5_mend_17 : decode cX5_mend 17 = .ok (.iaload, 1) := dqr0 dqK_46 dqw_cX5_mend_0 17 rfl rfl
theorem dX5_mend_18 : decode cX5_mend 18 = .ok (.istore 4, 2) := dqr1 dqK_54 dqw_cX5_mend_0 18 rfl rfl rfl
theorem dX5_mend_20 : decode cX5_mend 20 = .ok (.aload_n 0, 1) := dqr0 dqK_42 dqw_cX5_mend_0 20 rfl rfl
theorem dX5_mend_21 : decode cX5_mend 21 = .ok (.aload_n 0, 1) := dqr0 dqK_42 dqw_cX5_mend_0 21 rfl rfl
theorem dqw_cX5_mend_22 : dqLF cX5_mend 22 [180, 0, 31, 27, 46, 21, 4, 182, 0, 76, 154, 0, 10, 42, 180, 0, 31, 27, 28, 79, 42, 42] := by decide +kernel
theorem dX5_mend_22 : decode cX5_mend 22 = .ok (.getfield 31, 3) := dqr2 dqK_180 dqw_cX5_mend_22 0 rfl rfl rfl rfl rfl
theorem dX5_mend_25 : decode cX5_mend 25 = .ok (.iload_n 1, 1) := dqr0 dqK_27 dqw_cX5_mend_22 3 rfl rfl
theorem dX5_mend_26 : decode cX5_mend 26 = .ok (.iaload, 1) := dqr0 dqK_46 dqw_cX5_mend_22 4 rfl rfl
theorem dX5_mend_27 : decode cX5_mend 27 = .ok (.iload 4, 2) := dqr1 dqK_21 dqw_cX5_mend_22 5 rfl rfl rfl
theorem dX5_mend_29 : decode cX5_mend 29 = .ok (.invokevirtual 76, 3) := dqr2 dqK_182 dqw_cX5_mend_22 7 rfl rfl rfl rfl rfl
theorem dX5_mend_32 : decode cX5_mend 32 = .ok (.ifCond .ne 10, 3) := dqrs2 dqK_154 dqw_cX5_mend_22 10 rfl rfl rfl rfl (by decide)
theorem dX5_mend_35 : decode cX5_mend 35 = .ok (.aload_n 0, 1) := dqr0 dqK_42 dqw_cX5_mend_22 13 rfl rfl
theorem dX5_mend_36 : decode cX5_mend 36 = .ok (.getfield 31, 3) := dqr2 dqK_180 dqw_cX5_mend_22 14 rfl rfl rfl rfl rfl
theorem dX5_mend_39 : decode cX5_mend 39 = .ok (.iload_n 1, 1) := dqr0 dqK_27 dqw_cX5_mend_22 17 rfl rfl
theorem dX5_mend_40 : decode cX5_mend 40 = .ok (.iload_n 2, 1) := dqr0 dqK_28 dqw_cX5_mend_22 18 rfl rfl
theorem dX5_mend_41 : decode cX5_mend 41 = .ok (.iastore, 1) := dqr0 dqK_79 dqw_cX5_mend_22 19 rfl rfl
theorem dX5_mend_42 : decode cX5_mend 42 = .ok (.aload_n 0, 1) := dqr0 dqK_42 dqw_cX5_mend_22 20 rfl rfl
theorem dX5_mend_43 : decode cX5_mend 43 = .ok (.aload_n 0, 1) := dqr0 dqK_42 dqw_cX5_mend_22 21 rfl rfl
theorem dqw_cX5_mend_44 : dqLF cX5_mend 44 [180, 0, 34, 27, 46, 21, 4, 182, 0, 80, 154, 0, 10, 42, 180, 0, 34, 27, 29, 79, 4, 172] := by decide +kernel
theorem dX5_mend_44 : decode cX5_mend 44 = .ok (.getfield 34, 3) := dqr2 dqK_180 dqw_cX5_mend_44 0 rfl rfl rfl rfl rfl
theorem dX5_mend_47 : decode cX5_mend 47 = .ok (.iload_n 1, 1) := dqr0 dqK_27 dqw_cX5_mend_44 3 rfl rfl
theorem dX5_mend_48 : decode cX5_mend 48 = .ok (.iaload, 1) := dqr0 dqK_46 dqw_cX5_mend_44 4 rfl rfl
theorem dX5_mend_49 : decode cX5_mend 49 = .ok (.iload 4, 2) := dqr1 dqK_21 dqw_cX5_mend_44 5 rfl rfl rfl
theorem dX5_mend_51 : decode cX5_mend 51 = .ok (.invokevirtual 80, 3) := dqr2 dqK_182 dqw_cX5_mend_44 7 rfl rfl rfl rfl rfl
theorem dX5_mend_54 : decode cX5_mend 54 = .ok (.ifCond .ne 10, 3) := dqrs2 dqK_154 dqw_cX5_mend_44 10 rfl rfl rfl rfl (by decide)
theorem dX5_mend_57 : decode cX5_mend 57 = .ok (.aload_n 0, 1) := dqr0 dqK_42 dqw_cX5_mend_44 13 rfl rfl
theorem dX5_mend_58 : decode cX5_mend 58 = .ok (.getfield 34, 3) := dqr2 dqK_180 dqw_cX5_mend_44 14 rfl rfl rfl rfl rfl
theorem dX5_mend_61 : decode cX5_mend 61 = .ok (.iload_n 1, 1) := dqr0 dqK_27 dqw_cX5_mend_44 17 rfl rfl
theorem dX5_mend_62 : decode cX5_mend 62 = .ok (.iload_n 3, 1) := dqr0 dqK_29 dqw_cX5_mend_44 18 rfl rfl
theorem dX5_mend_63 : decode cX5_mend 63 = .ok (.iastore, 1) := dqr0 dqK_79 dqw_cX5_mend_44 19 rfl rfl
theorem dX5_mend_64 : decode cX5_mend 64 = .ok (.iconst 1, 1) := dqr0 dqK_4 dqw_cX5_mend_44 20 rfl rfl
theorem dX5_mend_65 : decode cX5_mend 65 = .ok (.ireturn, 1) := dqr0 dqK_172 dqw_cX5_mend_44 21 rfl rfl
theorem dqw_cX5_noteBroken_0 : dqLF cX5_noteBroken 0 [42, 180, 0, 60, 16, 40, 162, 0, 23, 42, 180, 0, 57, 42, 180, 0, 60, 27, 79, 42, 89, 180, 0, 60] := by decide +kernel
theorem dX5_noteBroken_0 : decode cX5_noteBroken 0 = .ok (.aload_n 0, 1) := dqr0 dqK_42 dqw_cX5_noteBroken_0 0 rfl rfl
theorem dX5_noteBroken_1 : decode cX5_noteBroken 1 = .ok (.getfield 60, 3) := dqr2 dqK_180 dqw_cX5_noteBroken_0 1 rfl rfl rfl rfl rfl
theorem dX5_noteBroken_4 : decode cX5_noteBroken 4 = .ok (.bipush 40, 2) := dqrs1 dqK_16 dqw_cX5_noteBroken_0 4 rfl rfl rfl (by decide)
theorem dX5_noteBroken_6 : decode cX5_noteBroken 6 = .ok (.if_icmp .ge 23, 3) := dqrs2 dqK_162 dqw_cX5_noteBroken_0 6 rfl rfl rfl rfl (by decide)
theorem dX5_noteBroken_9 : decode cX5_noteBroken 9 = .ok (.aload_n 0, 1) := dqr0 dqK_42 dqw_cX5_noteBroken_0 9 rfl rfl
theorem dX5_noteBroken_10 : decode cX5_noteBroken 10 = .ok (.getfield 57, 3) := dqr2 dqK_180 dqw_cX5_noteBroken_0 10 rfl rfl rfl rfl rfl
theorem dX5_noteBroken_13 : decode cX5_noteBroken 13 = .ok (.aload_n 0, 1) := dqr0 dqK_42 dqw_cX5_noteBroken_0 13 rfl rfl
theorem dX5_noteBroken_14 : decode cX5_noteBroken 14 = .ok (.getfield 60, 3) := dqr2 dqK_180 dqw_cX5_noteBroken_0 14 rfl rfl rfl rfl rfl
theorem dX5_noteBroken_17 : decode cX5_noteBroken 17 = .ok (.iload_n 1, 1) := dqr0 dqK_27 dqw_cX5_noteBroken_0 17 rfl rfl
theorem dX5_noteBroken_18 : decode cX5_noteBroken 18 = .ok (.iastore, 1) := dqr0 dqK_79 dqw_cX5_noteBroken_0 18 rfl rfl
theorem dX5_noteBroken_19 : decode cX5_noteBroken 19 = .ok (.aload_n 0, 1) := dqr0 dqK_42 dqw_cX5_noteBroken_0 19 rfl rfl
theorem dX5_noteBroken_20 : decode cX5_noteBroken 20 = .ok (.dup, 1) := dqr0 dqK_89 dqw_cX5_noteBroken_0 20 rfl rfl
theorem dX5_noteBroken_21 : decode cX5_noteBroken 21 = .ok (.getfield 60, 3) := dqr2 dqK_180 dqw_cX5_noteBroken_0 21 rfl rfl rfl rfl rfl
theorem dqw_cX5_noteBroken_24 : dqLF cX5_noteBroken 24 [4, 96, 181, 0, 60, 177] := by decide +kernel
theorem dX5_noteBroken_24 : decode cX5_noteBroken 24 = .ok (.iconst 1, 1) := dqr0 dqK_4 dqw_cX5_noteBroken_24 0 rfl rfl
theorem dX5_noteBroken_25 : decode cX5_noteBroken 25 = .ok (.iadd, 1) := dqr0 dqK_96 dqw_cX5_noteBroken_24 1 rfl rfl
theorem dX5_noteBroken_26 : decode cX5_noteBroken 26 = .ok (.putfield 60, 3) := dqr2 dqK_181 dqw_cX5_noteBroken_24 2 rfl rfl rfl rfl rfl
theorem dX5_noteBroken_29 : decode cX5_noteBroken 29 = .ok (.return_, 1) := dqr0 dqK_177 dqw_cX5_noteBroken_24 5 rfl rfl
end
