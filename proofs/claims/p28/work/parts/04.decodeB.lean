section
set_option maxRecDepth 16384
theorem dqw_cX6_init_0 : dqLF cX6_init 0 [42, 183, 0, 1, 42, 187, 0, 7, 89, 183, 0, 9, 181, 0, 10, 42, 187, 0, 16, 89, 183, 0, 18] := by decide +kernel
theorem dX6_init_0 : decode cX6_init 0 = .ok (.aload_n 0, 1) := dqr0 dqK_42 dqw_cX6_init_0 0 rfl rfl
theorem dX6_init_1 : decode cX6_init 1 = .ok (.invokespecial 1, 3) := dqr2 dqK_183 dqw_cX6_init_0 1 rfl rfl rfl rfl rfl
theorem dX6_init_4 : decode cX6_init 4 = .ok (.aload_n 0, 1) := dqr0 dqK_42 dqw_cX6_init_0 4 rfl rfl
theorem dX6_init_5 : decode cX6_init 5 = .ok (.new 7, 3) := dqr2 dqK_187 dqw_cX6_init_0 5 rfl rfl rfl rfl rfl
theorem dX6_init_8 : decode cX6_init 8 = .ok (.dup, 1) := dqr0 dqK_89 dqw_cX6_init_0 8 rfl rfl
theorem dX6_init_9 : decode cX6_init 9 = .ok (.invokespecial 9, 3) := dqr2 dqK_183 dqw_cX6_init_0 9 rfl rfl rfl rfl rfl
theorem dX6_init_12 : decode cX6_init 12 = .ok (.putfield 10, 3) := dqr2 dqK_181 dqw_cX6_init_0 12 rfl rfl rfl rfl rfl
theorem dX6_init_15 : decode cX6_init 15 = .ok (.aload_n 0, 1) := dqr0 dqK_42 dqw_cX6_init_0 15 rfl rfl
theorem dX6_init_16 : decode cX6_init 16 = .ok (.new 16, 3) := dqr2 dqK_187 dqw_cX6_init_0 16 rfl rfl rfl rfl rfl
theorem dX6_init_19 : decode cX6_init 19 = .ok (.dup, 1) := dqr0 dqK_89 dqw_cX6_init_0 19 rfl rfl
theorem dX6_init_20 : decode cX6_init 20 = .ok (.invokespecial 18, 3) := dqr2 dqK_183 dqw_cX6_init_0 20 rfl rfl rfl rfl rfl
theorem dqw_cX6_init_23 : dqLF cX6_init 23 [181, 0, 19, 42, 187, 0, 23, 89, 183, 0, 25, 181, 0, 26, 42, 187, 0, 30, 89, 42, 180, 0, 10, 42] := by decide +kernel
theorem dX6_init_23 : decode cX6_init 23 = .ok (.putfield 19, 3) := dqr2 dqK_181 dqw_cX6_init_23 0 rfl rfl rfl rfl rfl
theorem dX6_init_26 : decode cX6_init 26 = .ok (.aload_n 0, 1) := dqr0 dqK_42 dqw_cX6_init_23 3 rfl rfl
theorem dX6_init_27 : decode cX6_init 27 = .ok (.new 23, 3) := dqr2 dqK_187 dqw_cX6_init_23 4 rfl rfl rfl rfl rfl
theorem dX6_init_30 : decode cX6_init 30 = .ok (.dup, 1) := dqr0 dqK_89 dqw_cX6_init_23 7 rfl rfl
theorem dX6_init_31 : decode cX6_init 31 = .ok (.invokespecial 25, 3) := dqr2 dqK_183 dqw_cX6_init_23 8 rfl rfl rfl rfl rfl
theorem dX6_init_34 : decode cX6_init 34 = .ok (.putfield 26, 3) := dqr2 dqK_181 dqw_cX6_init_23 11 rfl rfl rfl rfl rfl
theorem dX6_init_37 : decode cX6_init 37 = .ok (.aload_n 0, 1) := dqr0 dqK_42 dqw_cX6_init_23 14 rfl rfl
theorem dX6_init_38 : decode cX6_init 38 = .ok (.new 30, 3) := dqr2 dqK_187 dqw_cX6_init_23 15 rfl rfl rfl rfl rfl
theorem dX6_init_41 : decode cX6_init 41 = .ok (.dup, 1) := dqr0 dqK_89 dqw_cX6_init_23 18 rfl rfl
theorem dX6_init_42 : decode cX6_init 42 = .ok (.aload_n 0, 1) := dqr0 dqK_42 dqw_cX6_init_23 19 rfl rfl
theorem dX6_init_43 : decode cX6_init 43 = .ok (.getfield 10, 3) := dqr2 dqK_180 dqw_cX6_init_23 20 rfl rfl rfl rfl rfl
theorem dX6_init_46 : decode cX6_init 46 = .ok (.aload_n 0, 1) := dqr0 dqK_42 dqw_cX6_init_23 23 rfl rfl
theorem dqw_cX6_init_47 : dqLF cX6_init 47 [180, 0, 19, 183, 0, 32, 181, 0, 35, 42, 187, 0, 39, 89, 42, 180, 0, 10, 42, 180, 0, 19] := by decide +kernel
theorem dX6_init_47 : decode cX6_init 47 = .ok (.getfield 19, 3) := dqr2 dqK_180 dqw_cX6_init_47 0 rfl rfl rfl rfl rfl
theorem dX6_init_50 : decode cX6_init 50 = .ok (.invokespecial 32, 3) := dqr2 dqK_183 dqw_cX6_init_47 3 rfl rfl rfl rfl rfl
theorem dX6_init_53 : decode cX6_init 53 = .ok (.putfield 35, 3) := dqr2 dqK_181 dqw_cX6_init_47 6 rfl rfl rfl rfl rfl
theorem dX6_init_56 : decode cX6_init 56 = .ok (.aload_n 0, 1) := dqr0 dqK_42 dqw_cX6_init_47 9 rfl rfl
theorem dX6_init_57 : decode cX6_init 57 = .ok (.new 39, 3) := dqr2 dqK_187 dqw_cX6_init_47 10 rfl rfl rfl rfl rfl
theorem dX6_init_60 : decode cX6_init 60 = .ok (.dup, 1) := dqr0 dqK_89 dqw_cX6_init_47 13 rfl rfl
theorem dX6_init_61 : decode cX6_init 61 = .ok (.aload_n 0, 1) := dqr0 dqK_42 dqw_cX6_init_47 14 rfl rfl
theorem dX6_init_62 : decode cX6_init 62 = .ok (.getfield 10, 3) := dqr2 dqK_180 dqw_cX6_init_47 15 rfl rfl rfl rfl rfl
theorem dX6_init_65 : decode cX6_init 65 = .ok (.aload_n 0, 1) := dqr0 dqK_42 dqw_cX6_init_47 18 rfl rfl
theorem dX6_init_66 : decode cX6_init 66 = .ok (.getfield 19, 3) := dqr2 dqK_180 dqw_cX6_init_47 19 rfl rfl rfl rfl rfl
theorem dqw_cX6_init_69 : dqLF cX6_init 69 [183, 0, 41, 181, 0, 42, 42, 187, 0, 46, 89, 183, 0, 48, 181, 0, 49, 42, 16, 24] := by decide +kernel
theorem dX6_init_69 : decode cX6_init 69 = .ok (.invokespecial 41, 3) := dqr2 dqK_183 dqw_cX6_init_69 0 rfl rfl rfl rfl rfl
theorem dX6_init_72 : decode cX6_init 72 = .ok (.putfield 42, 3) := dqr2 dqK_181 dqw_cX6_init_69 3 rfl rfl rfl rfl rfl
theorem dX6_init_75 : decode cX6_init 75 = .ok (.aload_n 0, 1) := dqr0 dqK_42 dqw_cX6_init_69 6 rfl rfl
theorem dX6_init_76 : decode cX6_init 76 = .ok (.new 46, 3) := dqr2 dqK_187 dqw_cX6_init_69 7 rfl rfl rfl rfl rfl
theorem dX6_init_79 : decode cX6_init 79 = .ok (.dup, 1) := dqr0 dqK_89 dqw_cX6_init_69 10 rfl rfl
theorem dX6_init_80 : decode cX6_init 80 = .ok (.invokespecial 48, 3) := dqr2 dqK_183 dqw_cX6_init_69 11 rfl rfl rfl rfl rfl
theorem dX6_init_83 : decode cX6_init 83 = .ok (.putfield 49, 3) := dqr2 dqK_181 dqw_cX6_init_69 14 rfl rfl rfl rfl rfl
theorem dX6_init_86 : decode cX6_init 86 = .ok (.aload_n 0, 1) := dqr0 dqK_42 dqw_cX6_init_69 17 rfl rfl
theorem dX6_init_87 : decode cX6_init 87 = .ok (.bipush 24, 2) := dqrs1 dqK_16 dqw_cX6_init_69 18 rfl rfl rfl (by decide)
theorem dX6_init_89 : decode cX6_init 89 = .ok (.newarray .int, 2) := by decide +kernel
theorem dqw_cX6_init_91 : dqLF cX6_init 91 [181, 0, 53, 42, 3, 181, 0, 57, 177] := by decide +kernel
theorem dX6_init_91 : decode cX6_init 91 = .ok (.putfield 53, 3) := dqr2 dqK_181 dqw_cX6_init_91 0 rfl rfl rfl rfl rfl
theorem dX6_init_94 : decode cX6_init 94 = .ok (.aload_n 0, 1) := dqr0 dqK_42 dqw_cX6_init_91 3 rfl rfl
theorem dX6_init_95 : decode cX6_init 95 = .ok (.iconst 0, 1) := dqr0 dqK_3 dqw_cX6_init_91 4 rfl rfl
theorem dX6_init_96 : decode cX6_init 96 = .ok (.putfield 57, 3) := dqr2 dqK_181 dqw_cX6_init_91 5 rfl rfl rfl rfl rfl
theorem dX6_init_99 : decode cX6_init 99 = .ok (.return_, 1) := dqr0 dqK_177 dqw_cX6_init_91 8 rfl rfl
theorem dqw_cX6_half_0 : dqLF cX6_half 0 [27, 4, 16, 8, 184, 0, 61, 153, 0, 20, 28, 27, 184, 0, 65, 153, 0, 12, 29, 2, 27, 184, 0, 61] := by decide +kernel
theorem dX6_half_0 : decode cX6_half 0 = .ok (.iload_n 1, 1) := dqr0 dqK_27 dqw_cX6_half_0 0 rfl rfl
theorem dX6_half_1 : decode cX6_half 1 = .ok (.iconst 1, 1) := dqr0 dqK_4 dqw_cX6_half_0 1 rfl rfl
theorem dX6_half_2 : decode cX6_half 2 = .ok (.bipush 8, 2) := dqrs1 dqK_16 dqw_cX6_half_0 2 rfl rfl rfl (by decide)
theorem dX6_half_4 : decode cX6_half 4 = .ok (.invokestatic 61, 3) := dqr2 dqK_184 dqw_cX6_half_0 4 rfl rfl rfl rfl rfl
theorem dX6_half_7 : decode cX6_half 7 = .ok (.ifCond .eq 20, 3) := dqrs2 dqK_153 dqw_cX6_half_0 7 rfl rfl rfl rfl (by decide)
theorem dX6_half_10 : decode cX6_half 10 = .ok (.iload_n 2, 1) := dqr0 dqK_28 dqw_cX6_half_0 10 rfl rfl
theorem dX6_half_11 : decode cX6_half 11 = .ok (.iload_n 1, 1) := dqr0 dqK_27 dqw_cX6_half_0 11 rfl rfl
theorem dX6_half_12 : decode cX6_half 12 = .ok (.invokestatic 65, 3) := dqr2 dqK_184 dqw_cX6_half_0 12 rfl rfl rfl rfl rfl
theorem dX6_half_15 : decode cX6_half 15 = .ok (.ifCond .eq 12, 3) := dqrs2 dqK_153 dqw_cX6_half_0 15 rfl rfl rfl rfl (by decide)
theorem dX6_half_18 : decode cX6_half 18 = .ok (.iload_n 3, 1) := dqr0 dqK_29 dqw_cX6_half_0 18 rfl rfl
theorem dX6_half_19 : decode cX6_half 19 = .ok (.iconst (-1), 1) := dqr0 dqK_2 dqw_cX6_half_0 19 rfl rfl
theorem dX6_half_20 : decode cX6_half 20 = .ok (.iload_n 1, 1) := dqr0 dqK_27 dqw_cX6_half_0 20 rfl rfl
theorem dX6_half_21 : decode cX6_half 21 = .ok (.invokestatic 61, 3) := dqr2 dqK_184 dqw_cX6_half_0 21 rfl rfl rfl rfl rfl
theorem dqw_cX6_half_24 : dqLF cX6_half 24 [154, 0, 6, 16, 254, 172, 42, 180, 0, 10, 180, 0, 69, 16, 40, 161, 0, 6, 16, 252, 172, 42] := by decide +kernel
theorem dX6_half_24 : decode cX6_half 24 = .ok (.ifCond .ne 6, 3) := dqrs2 dqK_154 dqw_cX6_half_24 0 rfl rfl rfl rfl (by decide)
theorem dX6_half_27 : decode cX6_half 27 = .ok (.bipush (-2), 2) := dqrs1 dqK_16 dqw_cX6_half_24 3 rfl rfl rfl (by decide)
theorem dX6_half_29 : decode cX6_half 29 = .ok (.ireturn, 1) := dqr0 dqK_172 dqw_cX6_half_24 5 rfl rfl
theorem dX6_half_30 : decode cX6_half 30 = .ok (.aload_n 0, 1) := dqr0 dqK_42 dqw_cX6_half_24 6 rfl rfl
theorem dX6_half_31 : decode cX6_half 31 = .ok (.getfield 10, 3) := dqr2 dqK_180 dqw_cX6_half_24 7 rfl rfl rfl rfl rfl
theorem dX6_half_34 : decode cX6_half 34 = .ok (.getfield 69, 3) := dqr2 dqK_180 dqw_cX6_half_24 10 rfl rfl rfl rfl rfl
theorem dX6_half_37 : decode cX6_half 37 = .ok (.bipush 40, 2) := dqrs1 dqK_16 dqw_cX6_half_24 13 rfl rfl rfl (by decide)
theorem dX6_half_39 : decode cX6_half 39 = .ok (.if_icmp .lt 6, 3) := dqrs2 dqK_161 dqw_cX6_half_24 15 rfl rfl rfl rfl (by decide)
theorem dX6_half_42 : decode cX6_half 42 = .ok (.bipush (-4), 2) := dqrs1 dqK_16 dqw_cX6_half_24 18 rfl rfl rfl (by decide)
theorem dX6_half_44 : decode cX6_half 44 = .ok (.ireturn, 1) := dqr0 dqK_172 dqw_cX6_half_24 20 rfl rfl
theorem dX6_half_45 : decode cX6_half 45 = .ok (.aload_n 0, 1) := dqr0 dqK_42 dqw_cX6_half_24 21 rfl rfl
theorem dqw_cX6_half_46 : dqLF cX6_half 46 [180, 0, 10, 27, 28, 29, 182, 0, 72, 172] := by decide +kernel
theorem dX6_half_46 : decode cX6_half 46 = .ok (.getfield 10, 3) := dqr2 dqK_180 dqw_cX6_half_46 0 rfl rfl rfl rfl rfl
theorem dX6_half_49 : decode cX6_half 49 = .ok (.iload_n 1, 1) := dqr0 dqK_27 dqw_cX6_half_46 3 rfl rfl
theorem dX6_half_50 : decode cX6_half 50 = .ok (.iload_n 2, 1) := dqr0 dqK_28 dqw_cX6_half_46 4 rfl rfl
theorem dX6_half_51 : decode cX6_half 51 = .ok (.iload_n 3, 1) := dqr0 dqK_29 dqw_cX6_half_46 5 rfl rfl
theorem dX6_half_52 : decode cX6_half 52 = .ok (.invokevirtual 72, 3) := dqr2 dqK_182 dqw_cX6_half_46 6 rfl rfl rfl rfl rfl
theorem dX6_half_55 : decode cX6_half 55 = .ok (.ireturn, 1) := dqr0 dqK_172 dqw_cX6_half_46 9 rfl rfl
theorem dqw_cX6_name_0 : dqLF cX6_name 0 [27, 3, 16, 9, 184, 0, 61, 154, 0, 5, 2, 172, 28, 4, 7, 184, 0, 61, 153, 0, 11, 29, 28] := by decide +kernel
theorem dX6_name_0 : decode cX6_name 0 = .ok (.iload_n 1, 1) := dqr0 dqK_27 dqw_cX6_name_0 0 rfl rfl
theorem dX6_name_1 : decode cX6_name 1 = .ok (.iconst 0, 1) := dqr0 dqK_3 dqw_cX6_name_0 1 rfl rfl
theorem dX6_name_2 : decode cX6_name 2 = .ok (.bipush 9, 2) := dqrs1 dqK_16 dqw_cX6_name_0 2 rfl rfl rfl (by decide)
theorem dX6_name_4 : decode cX6_name 4 = .ok (.invokestatic 61, 3) := dqr2 dqK_184 dqw_cX6_name_0 4 rfl rfl rfl rfl rfl
theorem dX6_name_7 : decode cX6_name 7 = .ok (.ifCond .ne 5, 3) := dqrs2 dqK_154 dqw_cX6_name_0 7 rfl rfl rfl rfl (by decide)
theorem dX6_name_10 : decode cX6_name 10 = .ok (.iconst (-1), 1) := dqr0 dqK_2 dqw_cX6_name_0 10 rfl rfl
theorem dX6_name_11 : decode cX6_name 11 = .ok (.ireturn, 1) := dqr0 dqK_172 dqw_cX6_name_0 11 rfl rfl
theorem dX6_name_12 : decode cX6_name 12 = .ok (.iload_n 2, 1) := dqr0 dqK_28 dqw_cX6_name_0 12 rfl rfl
theorem dX6_name_13 : decode cX6_name 13 = .ok (.iconst 1, 1) := dqr0 dqK_4 dqw_cX6_name_0 13 rfl rfl
theorem dX6_name_14 : decode cX6_name 14 = .ok (.iconst 4, 1) := dqr0 dqK_7 dqw_cX6_name_0 14 rfl rfl
theorem dX6_name_15 : decode cX6_name 15 = .ok (.invokestatic 61, 3) := dqr2 dqK_184 dqw_cX6_name_0 15 rfl rfl rfl rfl rfl
theorem dX6_name_18 : decode cX6_name 18 = .ok (.ifCond .eq 11, 3) := dqrs2 dqK_153 dqw_cX6_name_0 18 rfl rfl rfl rfl (by decide)
theorem dX6_name_21 : decode cX6_name 21 = .ok (.iload_n 3, 1) := dqr0 dqK_29 dqw_cX6_name_0 21 rfl rfl
theorem dX6_name_22 : decode cX6_name 22 = .ok (.iload_n 2, 1) := dqr0 dqK_28 dqw_cX6_name_0 22 rfl rfl
theorem dqw_cX6_name_23 : dqLF cX6_name 23 [184, 0, 65, 154, 0, 6, 16, 254, 172, 42, 180, 0, 10, 180, 0, 76, 27, 46, 54, 4, 42, 180, 0, 10] := by decide +kernel
theorem dX6_name_23 : decode cX6_name 23 = .ok (.invokestatic 65, 3) := dqr2 dqK_184 dqw_cX6_name_23 0 rfl rfl rfl rfl rfl
theorem dX6_name_26 : decode cX6_name 26 = .ok (.ifCond .ne 6, 3) := dqrs2 dqK_154 dqw_cX6_name_23 3 rfl rfl rfl rfl (by decide)
theorem dX6_name_29 : decode cX6_name 29 = .ok (.bipush (-2), 2) := dqrs1 dqK_16 dqw_cX6_name_23 6 rfl rfl rfl (by decide)
theorem dX6_name_31 : decode cX6_name 31 = .ok (.ireturn, 1) := dqr0 dqK_172 dqw_cX6_name_23 8 rfl rfl
theorem dX6_name_32 : decode cX6_name 32 = .ok (.aload_n 0, 1) := dqr0 dqK_42 dqw_cX6_name_23 9 rfl rfl
theorem dX6_name_33 : decode cX6_name 33 = .ok (.getfield 10, 3) := dqr2 dqK_180 dqw_cX6_name_23 10 rfl rfl rfl rfl rfl
theorem dX6_name_36 : decode cX6_name 36 = .ok (.getfield 76, 3) := dqr2 dqK_180 dqw_cX6_name_23 13 rfl rfl rfl rfl rfl
theorem dX6_name_39 : decode cX6_name 39 = .ok (.iload_n 1, 1) := dqr0 dqK_27 dqw_cX6_name_23 16 rfl rfl
theorem dX6_name_40 : decode cX6_name 40 = .ok (.iaload, 1) := dqr0 dqK_46 dqw_cX6_name_23 17 rfl rfl
theorem dX6_name_41 : decode cX6_name 41 = .ok (.istore 4, 2) := dqr1 dqK_54 dqw_cX6_name_23 18 rfl rfl rfl
theorem dX6_name_43 : decode cX6_name 43 = .ok (.aload_n 0, 1) := dqr0 dqK_42 dqw_cX6_name_23 20 rfl rfl
theorem dX6_name_44 : decode cX6_name 44 = .ok (.getfield 10, 3) := dqr2 dqK_180 dqw_cX6_name_23 21 rfl rfl rfl rfl rfl
theorem dqw_cX6_name_47 : dqLF cX6_name 47 [180, 0, 76, 27, 28, 79, 42, 180, 0, 10, 180, 0, 79, 27, 29, 79, 21, 4, 172] := by decide +kernel
theorem dX6_name_47 : decode cX6_name 47 = .ok (.getfield 76, 3) := dqr2 dqK_180 dqw_cX6_name_47 0 rfl rfl rfl rfl rfl
theorem dX6_name_50 : decode cX6_name 50 = .ok (.iload_n 1, 1) := dqr0 dqK_27 dqw_cX6_name_47 3 rfl rfl
theorem dX6_name_51 : decode cX6_name 51 = .ok (.iload_n 2, 1) := dqr0 dqK_28 dqw_cX6_name_47 4 rfl rfl
theorem dX6_name_52 : decode cX6_name 52 = .ok (.iastore, 1) := dqr0 dqK_79 dqw_cX6_name_47 5 rfl rfl
theorem dX6_name_53 : decode cX6_name 53 = .ok (.aload_n 0, 1) := dqr0 dqK_42 dqw_cX6_name_47 6 rfl rfl
theorem dX6_name_54 : decode cX6_name 54 = .ok (.getfield 10, 3) := dqr2 dqK_180 dqw_cX6_name_47 7 rfl rfl rfl rfl rfl
theorem dX6_name_57 : decode cX6_name 57 = .ok (.getfield 79, 3) := dqr2 dqK_180 dqw_cX6_name_47 10 rfl rfl rfl rfl rfl
theorem dX6_name_60 : decode cX6_name 60 = .ok (.iload_n 1, 1) := dqr0 dqK_27 dqw_cX6_name_47 13 rfl rfl
theorem dX6_name_61 : decode cX6_name 61 = .ok (.iload_n 3, 1) := dqr0 dqK_29 dqw_cX6_name_47 14 rfl rfl
theorem dX6_name_62 : decode cX6_name 62 = .ok (.iastore, 1) := dqr0 dqK_79 dqw_cX6_name_47 15 rfl rfl
theorem dX6_name_63 : decode cX6_name 63 = .ok (.iload 4, 2) := dqr1 dqK_21 dqw_cX6_name_47 16 rfl rfl rfl
theorem dX6_name_65 : decode cX6_name 65 = .ok (.ireturn, 1) := dqr0 dqK_172 dqw_cX6_name_47 18 rfl rfl
theorem dqw_cX6_line_0 : dqLF cX6_line 0 [42, 180, 0, 10, 27, 182, 0, 82, 153, 0, 14, 42, 180, 0, 10, 28, 182, 0, 82, 154, 0, 5, 2, 172] := by decide +kernel
theorem dX6_line_0 : decode cX6_line 0 = .ok (.aload_n 0, 1) := dqr0 dqK_42 dqw_cX6_line_0 0 rfl rfl
theorem dX6_line_1 : decode cX6_line 1 = .ok (.getfield 10, 3) := dqr2 dqK_180 dqw_cX6_line_0 1 rfl rfl rfl rfl rfl
theorem dX6_line_4 : decode cX6_line 4 = .ok (.iload_n 1, 1) := dqr0 dqK_27 dqw_cX6_line_0 4 rfl rfl
theorem dX6_line_5 : decode cX6_line 5 = .ok (.invokevirtual 82, 3) := dqr2 dqK_182 dqw_cX6_line_0 5 rfl rfl rfl rfl rfl
theorem dX6_line_8 : decode cX6_line 8 = .ok (.ifCond .eq 14, 3) := dqrs2 dqK_153 dqw_cX6_line_0 8 rfl rfl rfl rfl (by decide)
theorem dX6_line_11 : decode cX6_line 11 = .ok (.aload_n 0, 1) := dqr0 dqK_42 dqw_cX6_line_0 11 rfl rfl
theorem dX6_line_12 : decode cX6_line 12 = .ok (.getfield 10, 3) := dqr2 dqK_180 dqw_cX6_line_0 12 rfl rfl rfl rfl rfl
theorem dX6_line_15 : decode cX6_line 15 = .ok (.iload_n 2, 1) := dqr0 dqK_28 dqw_cX6_line_0 15 rfl rfl
theorem dX6_line_16 : decode cX6_line 16 = .ok (.invokevirtual 82, 3) := dqr2 dqK_182 dqw_cX6_line_0 16 rfl rfl rfl rfl rfl
theorem dX6_line_19 : decode cX6_line 19 = .ok (.ifCond .ne 5, 3) := dqrs2 dqK_154 dqw_cX6_line_0 19 rfl rfl rfl rfl (by decide)
theorem dX6_line_22 : decode cX6_line 22 = .ok (.iconst (-1), 1) := dqr0 dqK_2 dqw_cX6_line_0 22 rfl rfl
theorem dX6_line_23 : decode cX6_line 23 = .ok (.ireturn, 1) := dqr0 dqK_172 dqw_cX6_line_0 23 rfl rfl
theorem dqw_cX6_line_24 : dqLF cX6_line 24 [29, 3, 16, 7, 184, 0, 61, 153, 0, 14, 21, 4, 3, 16, 9, 184, 0, 61, 154, 0, 5, 2, 172] := by decide +kernel
theorem dX6_line_24 : decode cX6_line 24 = .ok (.iload_n 3, 1) := dqr0 dqK_29 dqw_cX6_line_24 0 rfl rfl
theorem dX6_line_25 : decode cX6_line 25 = .ok (.iconst 0, 1) := dqr0 dqK_3 dqw_cX6_line_24 1 rfl rfl
theorem dX6_line_26 : decode cX6_line 26 = .ok (.bipush 7, 2) := dqrs1 dqK_16 dqw_cX6_line_24 2 rfl rfl rfl (by decide)
theorem dX6_line_28 : decode cX6_line 28 = .ok (.invokestatic 61, 3) := dqr2 dqK_184 dqw_cX6_line_24 4 rfl rfl rfl rfl rfl
theorem dX6_line_31 : decode cX6_line 31 = .ok (.ifCond .eq 14, 3) := dqrs2 dqK_153 dqw_cX6_line_24 7 rfl rfl rfl rfl (by decide)
theorem dX6_line_34 : decode cX6_line 34 = .ok (.iload 4, 2) := dqr1 dqK_21 dqw_cX6_line_24 10 rfl rfl rfl
theorem dX6_line_36 : decode cX6_line 36 = .ok (.iconst 0, 1) := dqr0 dqK_3 dqw_cX6_line_24 12 rfl rfl
theorem dX6_line_37 : decode cX6_line 37 = .ok (.bipush 9, 2) := dqrs1 dqK_16 dqw_cX6_line_24 13 rfl rfl rfl (by decide)
theorem dX6_line_39 : decode cX6_line 39 = .ok (.invokestatic 61, 3) := dqr2 dqK_184 dqw_cX6_line_24 15 rfl rfl rfl rfl rfl
theorem dX6_line_42 : decode cX6_line 42 = .ok (.ifCond .ne 5, 3) := dqrs2 dqK_154 dqw_cX6_line_24 18 rfl rfl rfl rfl (by decide)
theorem dX6_line_45 : decode cX6_line 45 = .ok (.iconst (-1), 1) := dqr0 dqK_2 dqw_cX6_line_24 21 rfl rfl
theorem dX6_line_46 : decode cX6_line 46 = .ok (.ireturn, 1) := dqr0 dqK_172 dqw_cX6_line_24 22 rfl rfl
theorem dqw_cX6_line_47 : dqLF cX6_line 47 [21, 5, 3, 4, 184, 0, 61, 154, 0, 6, 16, 254, 172, 42, 180, 0, 10, 180, 0, 86, 16, 40] := by decide +kernel
theorem dX6_line_47 : decode cX6_line 47 = .ok (.iload 5, 2) := dqr1 dqK_21 dqw_cX6_line_47 0 rfl rfl rfl
theorem dX6_line_49 : decode cX6_line 49 = .ok (.iconst 0, 1) := dqr0 dqK_3 dqw_cX6_line_47 2 rfl rfl
theorem dX6_line_50 : decode cX6_line 50 = .ok (.iconst 1, 1) := dqr0 dqK_4 dqw_cX6_line_47 3 rfl rfl
theorem dX6_line_51 : decode cX6_line 51 = .ok (.invokestatic 61, 3) := dqr2 dqK_184 dqw_cX6_line_47 4 rfl rfl rfl rfl rfl
theorem dX6_line_54 : decode cX6_line 54 = .ok (.ifCond .ne 6, 3) := dqrs2 dqK_154 dqw_cX6_line_47 7 rfl rfl rfl rfl (by decide)
theorem dX6_line_57 : decode cX6_line 57 = .ok (.bipush (-2), 2) := dqrs1 dqK_16 dqw_cX6_line_47 10 rfl rfl rfl (by decide)
theorem dX6_line_59 : decode cX6_line 59 = .ok (.ireturn, 1) := dqr0 dqK_172 dqw_cX6_line_47 12 rfl rfl
theorem dX6_line_60 : decode cX6_line 60 = .ok (.aload_n 0, 1) := dqr0 dqK_42 dqw_cX6_line_47 13 rfl rfl
theorem dX6_line_61 : decode cX6_line 61 = .ok (.getfield 10, 3) := dqr2 dqK_180 dqw_cX6_line_47 14 rfl rfl rfl rfl rfl
theorem dX6_line_64 : decode cX6_line 64 = .ok (.getfield 86, 3) := dqr2 dqK_180 dqw_cX6_line_47 17 rfl rfl rfl rfl rfl
theorem dX6_line_67 : decode cX6_line 67 = .ok (.bipush 40, 2) := dqrs1 dqK_16 dqw_cX6_line_47 20 rfl rfl rfl (by decide)
theorem dqw_cX6_line_69 : dqLF cX6_line 69 [161, 0, 6, 16, 252, 172, 42, 180, 0, 10, 27, 28, 29, 21, 4, 21, 5, 182, 0, 89, 172] := by decide +kernel
theorem dX6_line_69 : decode cX6_line 69 = .ok (.if_icmp .lt 6, 3) := dqrs2 dqK_161 dqw_cX6_line_69 0 rfl rfl rfl rfl (by decide)
theorem dX6_line_72 : decode cX6_line 72 = .ok (.bipush (-4), 2) := dqrs1 dqK_16 dqw_cX6_line_69 3 rfl rfl rfl (by decide)
theorem dX6_line_74 : decode cX6_line 74 = .ok (.ireturn, 1) := dqr0 dqK_172 dqw_cX6_line_69 5 rfl rfl
theorem dX6_line_75 : decode cX6_line 75 = .ok (.aload_n 0, 1) := dqr0 dqK_42 dqw_cX6_line_69 6 rfl rfl
theorem dX6_line_76 : decode cX6_line 76 = .ok (.getfield 10, 3) := dqr2 dqK_180 dqw_cX6_line_69 7 rfl rfl rfl rfl rfl
theorem dX6_line_79 : decode cX6_line 79 = .ok (.iload_n 1, 1) := dqr0 dqK_27 dqw_cX6_line_69 10 rfl rfl
theorem dX6_line_80 : decode cX6_line 80 = .ok (.iload_n 2, 1) := dqr0 dqK_28 dqw_cX6_line_69 11 rfl rfl
theorem dX6_line_81 : decode cX6_line 81 = .ok (.iload_n 3, 1) := dqr0 dqK_29 dqw_cX6_line_69 12 rfl rfl
theorem dX6_line_82 : decode cX6_line 82 = .ok (.iload 4, 2) := dqr1 dqK_21 dqw_cX6_line_69 13 rfl rfl rfl
theorem dX6_line_84 : decode cX6_line 84 = .ok (.iload 5, 2) := dqr1 dqK_21 dqw_cX6_line_69 15 rfl rfl rfl
theorem dX6_line_86 : decode cX6_line 86 = .ok (.invokevirtual 89, 3) := dqr2 dqK_182 dqw_cX6_line_69 17 rfl rfl rfl rfl rfl
theorem dX6_line_89 : decode cX6_line 89 = .ok (.ireturn, 1) := dqr0 dqK_172 dqw_cX6_line_69 20 rfl rfl
theorem dqw_cX6_metre_0 : dqLF cX6_metre 0 [27, 3, 5, 184, 0, 61, 154, 0, 5, 2, 172, 27, 5, 160, 0, 15, 28, 16, 24, 184, 0, 65] := by decide +kernel
theorem dX6_metre_0 : decode cX6_metre 0 = .ok (.iload_n 1, 1) := dqr0 dqK_27 dqw_cX6_metre_0 0 rfl rfl
theorem dX6_metre_1 : decode cX6_metre 1 = .ok (.iconst 0, 1) := dqr0 dqK_3 dqw_cX6_metre_0 1 rfl rfl
theorem dX6_metre_2 : decode cX6_metre 2 = .ok (.iconst 2, 1) := dqr0 dqK_5 dqw_cX6_metre_0 2 rfl rfl
theorem dX6_metre_3 : decode cX6_metre 3 = .ok (.invokestatic 61, 3) := dqr2 dqK_184 dqw_cX6_metre_0 3 rfl rfl rfl rfl rfl
theorem dX6_metre_6 : decode cX6_metre 6 = .ok (.ifCond .ne 5, 3) := dqrs2 dqK_154 dqw_cX6_metre_0 6 rfl rfl rfl rfl (by decide)
theorem dX6_metre_9 : decode cX6_metre 9 = .ok (.iconst (-1), 1) := dqr0 dqK_2 dqw_cX6_metre_0 9 rfl rfl
theorem dX6_metre_10 : decode cX6_metre 10 = .ok (.ireturn, 1) := dqr0 dqK_172 dqw_cX6_metre_0 10 rfl rfl
theorem dX6_metre_11 : decode cX6_metre 11 = .ok (.iload_n 1, 1) := dqr0 dqK_27 dqw_cX6_metre_0 11 rfl rfl
theorem dX6_metre_12 : decode cX6_metre 12 = .ok (.iconst 2, 1) := dqr0 dqK_5 dqw_cX6_metre_0 12 rfl rfl
theorem dX6_metre_13 : decode cX6_metre 13 = .ok (.if_icmp .ne 15, 3) := dqrs2 dqK_160 dqw_cX6_metre_0 13 rfl rfl rfl rfl (by decide)
theorem dX6_metre_16 : decode cX6_metre 16 = .ok (.iload_n 2, 1) := dqr0 dqK_28 dqw_cX6_metre_0 16 rfl rfl
theorem dX6_metre_17 : decode cX6_metre 17 = .ok (.bipush 24, 2) := dqrs1 dqK_16 dqw_cX6_metre_0 17 rfl rfl rfl (by decide)
theorem dX6_metre_19 : decode cX6_metre 19 = .ok (.invokestatic 65, 3) := dqr2 dqK_184 dqw_cX6_metre_0 19 rfl rfl rfl rfl rfl
theorem dqw_cX6_metre_22 : dqLF cX6_metre 22 [154, 0, 19, 167, 0, 13, 28, 4, 16, 12, 184, 0, 61, 154, 0, 6, 16, 254, 172, 42, 180, 0, 10] := by decide +kernel
theorem dX6_metre_22 : decode cX6_metre 22 = .ok (.ifCond .ne 19, 3) := dqrs2 dqK_154 dqw_cX6_metre_22 0 rfl rfl rfl rfl (by decide)
theorem dX6_metre_25 : decode cX6_metre 25 = .ok (.goto 13, 3) := dqrs2 dqK_167 dqw_cX6_metre_22 3 rfl rfl rfl rfl (by decide)
theorem dX6_metre_28 : decode cX6_metre 28 = .ok (.iload_n 2, 1) := dqr0 dqK_28 dqw_cX6_metre_22 6 rfl rfl
theorem dX6_metre_29 : decode cX6_metre 29 = .ok (.iconst 1, 1) := dqr0 dqK_4 dqw_cX6_metre_22 7 rfl rfl
theorem dX6_metre_30 : decode cX6_metre 30 = .ok (.bipush 12, 2) := dqrs1 dqK_16 dqw_cX6_metre_22 8 rfl rfl rfl (by decide)
theorem dX6_metre_32 : decode cX6_metre 32 = .ok (.invokestatic 61, 3) := dqr2 dqK_184 dqw_cX6_metre_22 10 rfl rfl rfl rfl rfl
theorem dX6_metre_35 : decode cX6_metre 35 = .ok (.ifCond .ne 6, 3) := dqrs2 dqK_154 dqw_cX6_metre_22 13 rfl rfl rfl rfl (by decide)
theorem dX6_metre_38 : decode cX6_metre 38 = .ok (.bipush (-2), 2) := dqrs1 dqK_16 dqw_cX6_metre_22 16 rfl rfl rfl (by decide)
theorem dX6_metre_40 : decode cX6_metre 40 = .ok (.ireturn, 1) := dqr0 dqK_172 dqw_cX6_metre_22 18 rfl rfl
theorem dX6_metre_41 : decode cX6_metre 41 = .ok (.aload_n 0, 1) := dqr0 dqK_42 dqw_cX6_metre_22 19 rfl rfl
theorem dX6_metre_42 : decode cX6_metre 42 = .ok (.getfield 10, 3) := dqr2 dqK_180 dqw_cX6_metre_22 20 rfl rfl rfl rfl rfl
theorem dqw_cX6_metre_45 : dqLF cX6_metre 45 [180, 0, 93, 27, 46, 62, 42, 180, 0, 10, 180, 0, 93, 27, 28, 79, 29, 172] := by decide +kernel
theorem dX6_metre_45 : decode cX6_metre 45 = .ok (.getfield 93, 3) := dqr2 dqK_180 dqw_cX6_metre_45 0 rfl rfl rfl rfl rfl
theorem dX6_metre_48 : decode cX6_metre 48 = .ok (.iload_n 1, 1) := dqr0 dqK_27 dqw_cX6_metre_45 3 rfl rfl
theorem dX6_metre_49 : decode cX6_metre 49 = .ok (.iaload, 1) := dqr0 dqK_46 dqw_cX6_metre_45 4 rfl rfl
theorem dX6_metre_50 : decode cX6_metre 50 = .ok (.istore_n 3, 1) := dqr0 dqK_62 dqw_cX6_metre_45 5 rfl rfl
theorem dX6_metre_51 : decode cX6_metre 51 = .ok (.aload_n 0, 1) := dqr0 dqK_42 dqw_cX6_metre_45 6 rfl rfl
theorem dX6_metre_52 : decode cX6_metre 52 = .ok (.getfield 10, 3) := dqr2 dqK_180 dqw_cX6_metre_45 7 rfl rfl rfl rfl rfl
theorem dX6_metre_55 : decode cX6_metre 55 = .ok (.getfield 93, 3) := dqr2 dqK_180 dqw_cX6_metre_45 10 rfl rfl rfl rfl rfl
theorem dX6_metre_58 : decode cX6_metre 58 = .ok (.iload_n 1, 1) := dqr0 dqK_27 dqw_cX6_metre_45 13 rfl rfl
theorem dX6_metre_59 : decode cX6_metre 59 = .ok (.iload_n 2, 1) := dqr0 dqK_28 dqw_cX6_metre_45 14 rfl rfl
theorem dX6_metre_60 : decode cX6_metre 60 = .ok (.iastore, 1) := dqr0 dqK_79 dqw_cX6_metre_45 15 rfl rfl
theorem dX6_metre_61 : decode cX6_metre 61 = .ok (.iload_n 3, 1) := dqr0 dqK_29 dqw_cX6_metre_45 16 rfl rfl
theorem dX6_metre_62 : decode cX6_metre 62 = .ok (.ireturn, 1) := dqr0 dqK_172 dqw_cX6_metre_45 17 rfl rfl
theorem dqw_cX6_told_0 : dqLF cX6_told 0 [42, 180, 0, 10, 27, 182, 0, 96, 154, 0, 5, 2, 172, 28] := by decide +kernel
theorem dX6_told_0 : decode cX6_told 0 = .ok (.aload_n 0, 1) := dqr0 dqK_42 dqw_cX6_told_0 0 rfl rfl
theorem dX6_told_1 : decode cX6_told 1 = .ok (.getfield 10, 3) := dqr2 dqK_180 dqw_cX6_told_0 1 rfl rfl rfl rfl rfl
theorem dX6_told_4 : decode cX6_told 4 = .ok (.iload_n 1, 1) := dqr0 dqK_27 dqw_cX6_told_0 4 rfl rfl
theorem dX6_told_5 : decode cX6_told 5 = .ok (.invokevirtual 96, 3) := dqr2 dqK_182 dqw_cX6_told_0 5 rfl rfl rfl rfl rfl
theorem dX6_told_8 : decode cX6_told 8 = .ok (.ifCond .ne 5, 3) := dqrs2 dqK_154 dqw_cX6_told_0 8 rfl rfl rfl rfl (by decide)
theorem dX6_told_11 : decode cX6_told 11 = .ok (.iconst (-1), 1) := dqr0 dqK_2 dqw_cX6_told_0 11 rfl rfl
theorem dX6_told_12 : decode cX6_told 12 = .ok (.ireturn, 1) := dqr0 dqK_172 dqw_cX6_told_0 12 rfl rfl
theorem dX6_told_13 : decode cX6_told 13 = .ok (.iload_n 2, 1) := dqr0 dqK_28 dqw_cX6_told_0 13 rfl rfl
theorem dX6_told_14 : decode cX6_told 14 = .ok (.tableswitch 133 0 7 #[46, 56, 66, 76, 86, 98, 115, 124], 46) := by decide +kernel
theorem dqw_cX6_told_60 : dqLF cX6_told 60 [42, 180, 0, 10, 180, 0, 99, 27, 46, 172, 42, 180, 0, 10, 180, 0, 102, 27, 46, 172, 42, 180, 0, 10] := by decide +kernel
theorem dX6_told_60 : decode cX6_told 60 = .ok (.aload_n 0, 1) := dqr0 dqK_42 dqw_cX6_told_60 0 rfl rfl
theorem dX6_told_61 : decode cX6_told 61 = .ok (.getfield 10, 3) := dqr2 dqK_180 dqw_cX6_told_60 1 rfl rfl rfl rfl rfl
theorem dX6_told_64 : decode cX6_told 64 = .ok (.getfield 99, 3) := dqr2 dqK_180 dqw_cX6_told_60 4 rfl rfl rfl rfl rfl
theorem dX6_told_67 : decode cX6_told 67 = .ok (.iload_n 1, 1) := dqr0 dqK_27 dqw_cX6_told_60 7 rfl rfl
theorem dX6_told_68 : decode cX6_told 68 = .ok (.iaload, 1) := dqr0 dqK_46 dqw_cX6_told_60 8 rfl rfl
theorem dX6_told_69 : decode cX6_told 69 = .ok (.ireturn, 1) := dqr0 dqK_172 dqw_cX6_told_60 9 rfl rfl
theorem dX6_told_70 : decode cX6_told 70 = .ok (.aload_n 0, 1) := dqr0 dqK_42 dqw_cX6_told_60 10 rfl rfl
theorem dX6_told_71 : decode cX6_told 71 = .ok (.getfield 10, 3) := dqr2 dqK_180 dqw_cX6_told_60 11 rfl rfl rfl rfl rfl
theorem dX6_told_74 : decode cX6_told 74 = .ok (.getfield 102, 3) := dqr2 dqK_180 dqw_cX6_told_60 14 rfl rfl rfl rfl rfl
theorem dX6_told_77 : decode cX6_told 77 = .ok (.iload_n 1, 1) := dqr0 dqK_27 dqw_cX6_told_60 17 rfl rfl
theorem dX6_told_78 : decode cX6_told 78 = .ok (.iaload, 1) := dqr0 dqK_46 dqw_cX6_told_60 18 rfl rfl
theorem dX6_told_79 : decode cX6_told 79 = .ok (.ireturn, 1) := dqr0 dqK_172 dqw_cX6_told_60 19 rfl rfl
theorem dX6_told_80 : decode cX6_told 80 = .ok (.aload_n 0, 1) := dqr0 dqK_42 dqw_cX6_told_60 20 rfl rfl
theorem dX6_told_81 : decode cX6_told 81 = .ok (.getfield 10, 3) := dqr2 dqK_180 dqw_cX6_told_60 21 rfl rfl rfl rfl rfl
theorem dqw_cX6_told_84 : dqLF cX6_told 84 [180, 0, 105, 27, 46, 172, 42, 180, 0, 10, 180, 0, 108, 27, 46, 172, 42, 180, 0, 10, 180, 0, 111, 27] := by decide +kernel
theorem dX6_told_84 : decode cX6_told 84 = .ok (.getfield 105, 3) := dqr2 dqK_180 dqw_cX6_told_84 0 rfl rfl rfl rfl rfl
theorem dX6_told_87 : decode cX6_told 87 = .ok (.iload_n 1, 1) := dqr0 dqK_27 dqw_cX6_told_84 3 rfl rfl
theorem dX6_told_88 : decode cX6_told 88 = .ok (.iaload, 1) := dqr0 dqK_46 dqw_cX6_told_84 4 rfl rfl
theorem dX6_told_89 : decode cX6_told 89 = .ok (.ireturn, 1) := dqr0 dqK_172 dqw_cX6_told_84 5 rfl rfl
theorem dX6_told_90 : decode cX6_told 90 = .ok (.aload_n 0, 1) := dqr0 dqK_42 dqw_cX6_told_84 6 rfl rfl
theorem dX6_told_91 : decode cX6_told 91 = .ok (.getfield 10, 3) := dqr2 dqK_180 dqw_cX6_told_84 7 rfl rfl rfl rfl rfl
theorem dX6_told_94 : decode cX6_told 94 = .ok (.getfield 108, 3) := dqr2 dqK_180 dqw_cX6_told_84 10 rfl rfl rfl rfl rfl
theorem dX6_told_97 : decode cX6_told 97 = .ok (.iload_n 1, 1) := dqr0 dqK_27 dqw_cX6_told_84 13 rfl rfl
theorem dX6_told_98 : decode cX6_told 98 = .ok (.iaload, 1) := dqr0 dqK_46 dqw_cX6_told_84 14 rfl rfl
theorem dX6_told_99 : decode cX6_told 99 = .ok (.ireturn, 1) := dqr0 dqK_172 dqw_cX6_told_84 15 rfl rfl
theorem dX6_told_100 : decode cX6_told 100 = .ok (.aload_n 0, 1) := dqr0 dqK_42 dqw_cX6_told_84 16 rfl rfl
theorem dX6_told_101 : decode cX6_told 101 = .ok (.getfield 10, 3) := dqr2 dqK_180 dqw_cX6_told_84 17 rfl rfl rfl rfl rfl
theorem dX6_told_104 : decode cX6_told 104 = .ok (.getfield 111, 3) := dqr2 dqK_180 dqw_cX6_told_84 20 rfl rfl rfl rfl rfl
theorem dX6_told_107 : decode cX6_told 107 = .ok (.iload_n 1, 1) := dqr0 dqK_27 dqw_cX6_told_84 23 rfl rfl
theorem dqw_cX6_told_108 : dqLF cX6_told 108 [184, 0, 115, 172, 42, 180, 0, 10, 27, 182, 0, 119, 153, 0, 7, 4, 167, 0, 4, 3, 172, 42] := by decide +kernel
theorem dX6_told_108 : decode cX6_told 108 = .ok (.invokestatic 115, 3) := dqr2 dqK_184 dqw_cX6_told_108 0 rfl rfl rfl rfl rfl
theorem dX6_told_111 : decode cX6_told 111 = .ok (.ireturn, 1) := dqr0 dqK_172 dqw_cX6_told_108 3 rfl rfl
theorem dX6_told_112 : decode cX6_told 112 = .ok (.aload_n 0, 1) := dqr0 dqK_42 dqw_cX6_told_108 4 rfl rfl
theorem dX6_told_113 : decode cX6_told 113 = .ok (.getfield 10, 3) := dqr2 dqK_180 dqw_cX6_told_108 5 rfl rfl rfl rfl rfl
theorem dX6_told_116 : decode cX6_told 116 = .ok (.iload_n 1, 1) := dqr0 dqK_27 dqw_cX6_told_108 8 rfl rfl
theorem dX6_told_117 : decode cX6_told 117 = .ok (.invokevirtual 119, 3) := dqr2 dqK_182 dqw_cX6_told_108 9 rfl rfl rfl rfl rfl
theorem dX6_told_120 : decode cX6_told 120 = .ok (.ifCond .eq 7, 3) := dqrs2 dqK_153 dqw_cX6_told_108 12 rfl rfl rfl rfl (by decide)
theorem dX6_told_123 : decode cX6_told 123 = .ok (.iconst 1, 1) := dqr0 dqK_4 dqw_cX6_told_108 15 rfl rfl
theorem dX6_told_124 : decode cX6_told 124 = .ok (.goto 4, 3) := dqrs2 dqK_167 dqw_cX6_told_108 16 rfl rfl rfl rfl (by decide)
theorem dX6_told_127 : decode cX6_told 127 = .ok (.iconst 0, 1) := dqr0 dqK_3 dqw_cX6_told_108 19 rfl rfl
theorem dX6_told_128 : decode cX6_told 128 = .ok (.ireturn, 1) := dqr0 dqK_172 dqw_cX6_told_108 20 rfl rfl
theorem dX6_told_129 : decode cX6_told 129 = .ok (.aload_n 0, 1) := dqr0 dqK_42 dqw_cX6_told_108 21 rfl rfl
theorem dqw_cX6_told_130 : dqLF cX6_told 130 [180, 0, 10, 27, 182, 0, 122, 172, 42, 180, 0, 10, 27, 182, 0, 126, 172, 2, 172] := by decide +kernel
theorem dX6_told_130 : decode cX6_told 130 = .ok (.getfield 10, 3) := dqr2 dqK_180 dqw_cX6_told_130 0 rfl rfl rfl rfl rfl
theorem dX6_told_133 : decode cX6_told 133 = .ok (.iload_n 1, 1) := dqr0 dqK_27 dqw_cX6_told_130 3 rfl rfl
theorem dX6_told_134 : decode cX6_told 134 = .ok (.invokevirtual 122, 3) := dqr2 dqK_182 dqw_cX6_told_130 4 rfl rfl rfl rfl rfl
theorem dX6_told_137 : decode cX6_told 137 = .ok (.ireturn, 1) := dqr0 dqK_172 dqw_cX6_told_130 7 rfl rfl
theorem dX6_told_138 : decode cX6_told 138 = .ok (.aload_n 0, 1) := dqr0 dqK_42 dqw_cX6_told_130 8 rfl rfl
theorem dX6_told_139 : decode cX6_told 139 = .ok (.getfield 10, 3) := dqr2 dqK_180 dqw_cX6_told_130 9 rfl rfl rfl rfl rfl
theorem dX6_told_142 : decode cX6_told 142 = .ok (.iload_n 1, 1) := dqr0 dqK_27 dqw_cX6_told_130 12 rfl rfl
theorem dX6_told_143 : decode cX6_told 143 = .ok (.invokevirtual 126, 3) := dqr2 dqK_182 dqw_cX6_told_130 13 rfl rfl rfl rfl rfl
theorem dX6_told_146 : decode cX6_told 146 = .ok (.ireturn, 1) := dqr0 dqK_172 dqw_cX6_told_130 16 rfl rfl
theorem dX6_told_147 : decode cX6_told 147 = .ok (.iconst (-1), 1) := dqr0 dqK_2 dqw_cX6_told_130 17 rfl rfl
theorem dX6_told_148 : decode cX6_told 148 = .ok (.ireturn, 1) := dqr0 dqK_172 dqw_cX6_told_130 18 rfl rfl
theorem dqw_cX6_swap_0 : dqLF cX6_swap 0 [27, 3, 16, 9, 184, 0, 61, 153, 0, 13, 28, 3, 16, 9, 184, 0, 61, 154, 0, 5, 2, 172, 27, 28] := by decide +kernel
theorem dX6_swap_0 : decode cX6_swap 0 = .ok (.iload_n 1, 1) := dqr0 dqK_27 dqw_cX6_swap_0 0 rfl rfl
theorem dX6_swap_1 : decode cX6_swap 1 = .ok (.iconst 0, 1) := dqr0 dqK_3 dqw_cX6_swap_0 1 rfl rfl
theorem dX6_swap_2 : decode cX6_swap 2 = .ok (.bipush 9, 2) := dqrs1 dqK_16 dqw_cX6_swap_0 2 rfl rfl rfl (by decide)
theorem dX6_swap_4 : decode cX6_swap 4 = .ok (.invokestatic 61, 3) := dqr2 dqK_184 dqw_cX6_swap_0 4 rfl rfl rfl rfl rfl
theorem dX6_swap_7 : decode cX6_swap 7 = .ok (.ifCond .eq 13, 3) := dqrs2 dqK_153 dqw_cX6_swap_0 7 rfl rfl rfl rfl (by decide)
theorem dX6_swap_10 : decode cX6_swap 10 = .ok (.iload_n 2, 1) := dqr0 dqK_28 dqw_cX6_swap_0 10 rfl rfl
theorem dX6_swap_11 : decode cX6_swap 11 = .ok (.iconst 0, 1) := dqr0 dqK_3 dqw_cX6_swap_0 11 rfl rfl
theorem dX6_swap_12 : decode cX6_swap 12 = .ok (.bipush 9, 2) := dqrs1 dqK_16 dqw_cX6_swap_0 12 rfl rfl rfl (by decide)
theorem dX6_swap_14 : decode cX6_swap 14 = .ok (.invokestatic 61, 3) := dqr2 dqK_184 dqw_cX6_swap_0 14 rfl rfl rfl rfl rfl
theorem dX6_swap_17 : decode cX6_swap 17 = .ok (.ifCond .ne 5, 3) := dqrs2 dqK_154 dqw_cX6_swap_0 17 rfl rfl rfl rfl (by decide)
theorem dX6_swap_20 : decode cX6_swap 20 = .ok (.iconst (-1), 1) := dqr0 dqK_2 dqw_cX6_swap_0 20 rfl rfl
theorem dX6_swap_21 : decode cX6_swap 21 = .ok (.ireturn, 1) := dqr0 dqK_172 dqw_cX6_swap_0 21 rfl rfl
theorem dX6_swap_22 : decode cX6_swap 22 = .ok (.iload_n 1, 1) := dqr0 dqK_27 dqw_cX6_swap_0 22 rfl rfl
theorem dX6_swap_23 : decode cX6_swap 23 = .ok (.iload_n 2, 1) := dqr0 dqK_28 dqw_cX6_swap_0 23 rfl rfl
theorem dqw_cX6_swap_24 : dqLF cX6_swap 24 [160, 0, 6, 16, 254, 172, 42, 180, 0, 10, 27, 28, 182, 0, 129, 172] := by decide +kernel
theorem dX6_swap_24 : decode cX6_swap 24 = .ok (.if_icmp .ne 6, 3) := dqrs2 dqK_160 dqw_cX6_swap_24 0 rfl rfl rfl rfl (by decide)
theorem dX6_swap_27 : decode cX6_swap 27 = .ok (.bipush (-2), 2) := dqrs1 dqK_16 dqw_cX6_swap_24 3 rfl rfl rfl (by decide)
theorem dX6_swap_29 : decode cX6_swap 29 = .ok (.ireturn, 1) := dqr0 dqK_172 dqw_cX6_swap_24 5 rfl rfl
theorem dX6_swap_30 : decode cX6_swap 30 = .ok (.aload_n 0, 1) := dqr0 dqK_42 dqw_cX6_swap_24 6 rfl rfl
theorem dX6_swap_31 : decode cX6_swap 31 = .ok (.getfield 10, 3) := dqr2 dqK_180 dqw_cX6_swap_24 7 rfl rfl rfl rfl rfl
theorem dX6_swap_34 : decode cX6_swap 34 = .ok (.iload_n 1, 1) := dqr0 dqK_27 dqw_cX6_swap_24 10 rfl rfl
theorem dX6_swap_35 : decode cX6_swap 35 = .ok (.iload_n 2, 1) := dqr0 dqK_28 dqw_cX6_swap_24 11 rfl rfl
theorem dX6_swap_36 : decode cX6_swap 36 = .ok (.invokevirtual 129, 3) := dqr2 dqK_182 dqw_cX6_swap_24 12 rfl rfl rfl rfl rfl
theorem dX6_swap_39 : decode cX6_swap 39 = .ok (.ireturn, 1) := dqr0 dqK_172 dqw_cX6_swap_24 15 rfl rfl
theorem dqw_cX6_broken_0 : dqLF cX6_broken 0 [42, 180, 0, 10, 180, 0, 133, 42, 180, 0, 10, 180, 0, 136, 27, 184, 0, 139, 172] := by decide +kernel
theorem dX6_broken_0 : decode cX6_broken 0 = .ok (.aload_n 0, 1) := dqr0 dqK_42 dqw_cX6_broken_0 0 rfl rfl
theorem dX6_broken_1 : decode cX6_broken 1 = .ok (.getfield 10, 3) := dqr2 dqK_180 dqw_cX6_broken_0 1 rfl rfl rfl rfl rfl
theorem dX6_broken_4 : decode cX6_broken 4 = .ok (.getfield 133, 3) := dqr2 dqK_180 dqw_cX6_broken_0 4 rfl rfl rfl rfl rfl
theorem dX6_broken_7 : decode cX6_broken 7 = .ok (.aload_n 0, 1) := dqr0 dqK_42 dqw_cX6_broken_0 7 rfl rfl
theorem dX6_broken_8 : decode cX6_broken 8 = .ok (.getfield 10, 3) := dqr2 dqK_180 dqw_cX6_broken_0 8 rfl rfl rfl rfl rfl
theorem dX6_broken_11 : decode cX6_broken 11 = .ok (.getfield 136, 3) := dqr2 dqK_180 dqw_cX6_broken_0 11 rfl rfl rfl rfl rfl
theorem dX6_broken_14 : decode cX6_broken 14 = .ok (.iload_n 1, 1) := dqr0 dqK_27 dqw_cX6_broken_0 14 rfl rfl
theorem dX6_broken_15 : decode cX6_broken 15 = .ok (.invokestatic 139, 3) := dqr2 dqK_184 dqw_cX6_broken_0 15 rfl rfl rfl rfl rfl
theorem dX6_broken_18 : decode cX6_broken 18 = .ok (.ireturn, 1) := dqr0 dqK_172 dqw_cX6_broken_0 18 rfl rfl
theorem dqw_cX6_feed_0 : dqLF cX6_feed 0 [29, 4, 16, 8, 184, 0, 61, 154, 0, 6, 16, 254, 172, 42, 180, 0, 19, 180, 0, 143, 16, 60, 29, 100] := by decide +kernel
theorem dX6_feed_0 : decode cX6_feed 0 = .ok (.iload_n 3, 1) := dqr0 dqK_29 dqw_cX6_feed_0 0 rfl rfl
theorem dX6_feed_1 : decode cX6_feed 1 = .ok (.iconst 1, 1) := dqr0 dqK_4 dqw_cX6_feed_0 1 rfl rfl
theorem dX6_feed_2 : decode cX6_feed 2 = .ok (.bipush 8, 2) := dqrs1 dqK_16 dqw_cX6_feed_0 2 rfl rfl rfl (by decide)
theorem dX6_feed_4 : decode cX6_feed 4 = .ok (.invokestatic 61, 3) := dqr2 dqK_184 dqw_cX6_feed_0 4 rfl rfl rfl rfl rfl
theorem dX6_feed_7 : decode cX6_feed 7 = .ok (.ifCond .ne 6, 3) := dqrs2 dqK_154 dqw_cX6_feed_0 7 rfl rfl rfl rfl (by decide)
theorem dX6_feed_10 : decode cX6_feed 10 = .ok (.bipush (-2), 2) := dqrs1 dqK_16 dqw_cX6_feed_0 10 rfl rfl rfl (by decide)
theorem dX6_feed_12 : decode cX6_feed 12 = .ok (.ireturn, 1) := dqr0 dqK_172 dqw_cX6_feed_0 12 rfl rfl
theorem dX6_feed_13 : decode cX6_feed 13 = .ok (.aload_n 0, 1) := dqr0 dqK_42 dqw_cX6_feed_0 13 rfl rfl
theorem dX6_feed_14 : decode cX6_feed 14 = .ok (.getfield 19, 3) := dqr2 dqK_180 dqw_cX6_feed_0 14 rfl rfl rfl rfl rfl
theorem dX6_feed_17 : decode cX6_feed 17 = .ok (.getfield 143, 3) := dqr2 dqK_180 dqw_cX6_feed_0 17 rfl rfl rfl rfl rfl
theorem dX6_feed_20 : decode cX6_feed 20 = .ok (.bipush 60, 2) := dqrs1 dqK_16 dqw_cX6_feed_0 20 rfl rfl rfl (by decide)
theorem dX6_feed_22 : decode cX6_feed 22 = .ok (.iload_n 3, 1) := dqr0 dqK_29 dqw_cX6_feed_0 22 rfl rfl
theorem dX6_feed_23 : decode cX6_feed 23 = .ok (.isub, 1) := dqr0 dqK_100 dqw_cX6_feed_0 23 rfl rfl
theorem dqw_cX6_feed_24 : dqLF cX6_feed 24 [164, 0, 6, 16, 252, 172, 42, 180, 0, 19, 31, 29, 182, 0, 146, 172] := by decide +kernel
theorem dX6_feed_24 : decode cX6_feed 24 = .ok (.if_icmp .le 6, 3) := dqrs2 dqK_164 dqw_cX6_feed_24 0 rfl rfl rfl rfl (by decide)
theorem dX6_feed_27 : decode cX6_feed 27 = .ok (.bipush (-4), 2) := dqrs1 dqK_16 dqw_cX6_feed_24 3 rfl rfl rfl (by decide)
theorem dX6_feed_29 : decode cX6_feed 29 = .ok (.ireturn, 1) := dqr0 dqK_172 dqw_cX6_feed_24 5 rfl rfl
theorem dX6_feed_30 : decode cX6_feed 30 = .ok (.aload_n 0, 1) := dqr0 dqK_42 dqw_cX6_feed_24 6 rfl rfl
theorem dX6_feed_31 : decode cX6_feed 31 = .ok (.getfield 19, 3) := dqr2 dqK_180 dqw_cX6_feed_24 7 rfl rfl rfl rfl rfl
theorem dX6_feed_34 : decode cX6_feed 34 = .ok (.lload_n 1, 1) := dqr0 dqK_31 dqw_cX6_feed_24 10 rfl rfl
theorem dX6_feed_35 : decode cX6_feed 35 = .ok (.iload_n 3, 1) := dqr0 dqK_29 dqw_cX6_feed_24 11 rfl rfl
theorem dX6_feed_36 : decode cX6_feed 36 = .ok (.invokevirtual 146, 3) := dqr2 dqK_182 dqw_cX6_feed_24 12 rfl rfl rfl rfl rfl
theorem dX6_feed_39 : decode cX6_feed 39 = .ok (.ireturn, 1) := dqr0 dqK_172 dqw_cX6_feed_24 15 rfl rfl
theorem dqw_cX6_scene_0 : dqLF cX6_scene 0 [42, 180, 0, 19, 182, 0, 149, 172] := by decide +kernel
theorem dX6_scene_0 : decode cX6_scene 0 = .ok (.aload_n 0, 1) := dqr0 dqK_42 dqw_cX6_scene_0 0 rfl rfl
theorem dX6_scene_1 : decode cX6_scene 1 = .ok (.getfield 19, 3) := dqr2 dqK_180 dqw_cX6_scene_0 1 rfl rfl rfl rfl rfl
theorem dX6_scene_4 : decode cX6_scene 4 = .ok (.invokevirtual 149, 3) := dqr2 dqK_182 dqw_cX6_scene_0 4 rfl rfl rfl rfl rfl
theorem dX6_scene_7 : decode cX6_scene 7 = .ok (.ireturn, 1) := dqr0 dqK_172 dqw_cX6_scene_0 7 rfl rfl
theorem dqw_cX6_hall_0 : dqLF cX6_hall 0 [27, 3, 6, 184, 0, 61, 154, 0, 6, 16, 254, 172, 42, 180, 0, 19, 180, 0, 153, 61, 42, 180, 0, 19] := by decide +kernel
theorem dX6_hall_0 : decode cX6_hall 0 = .ok (.iload_n 1, 1) := dqr0 dqK_27 dqw_cX6_hall_0 0 rfl rfl
theorem dX6_hall_1 : decode cX6_hall 1 = .ok (.iconst 0, 1) := dqr0 dqK_3 dqw_cX6_hall_0 1 rfl rfl
theorem dX6_hall_2 : decode cX6_hall 2 = .ok (.iconst 3, 1) := dqr0 dqK_6 dqw_cX6_hall_0 2 rfl rfl
theorem dX6_hall_3 : decode cX6_hall 3 = .ok (.invokestatic 61, 3) := dqr2 dqK_184 dqw_cX6_hall_0 3 rfl rfl rfl rfl rfl
theorem dX6_hall_6 : decode cX6_hall 6 = .ok (.ifCond .ne 6, 3) := dqrs2 dqK_154 dqw_cX6_hall_0 6 rfl rfl rfl rfl (by decide)
theorem dX6_hall_9 : decode cX6_hall 9 = .ok (.bipush (-2), 2) := dqrs1 dqK_16 dqw_cX6_hall_0 9 rfl rfl rfl (by decide)
theorem dX6_hall_11 : decode cX6_hall 11 = .ok (.ireturn, 1) := dqr0 dqK_172 dqw_cX6_hall_0 11 rfl rfl
theorem dX6_hall_12 : decode cX6_hall 12 = .ok (.aload_n 0, 1) := dqr0 dqK_42 dqw_cX6_hall_0 12 rfl rfl
theorem dX6_hall_13 : decode cX6_hall 13 = .ok (.getfield 19, 3) := dqr2 dqK_180 dqw_cX6_hall_0 13 rfl rfl rfl rfl rfl
theorem dX6_hall_16 : decode cX6_hall 16 = .ok (.getfield 153, 3) := dqr2 dqK_180 dqw_cX6_hall_0 16 rfl rfl rfl rfl rfl
theorem dX6_hall_19 : decode cX6_hall 19 = .ok (.istore_n 2, 1) := dqr0 dqK_61 dqw_cX6_hall_0 19 rfl rfl
theorem dX6_hall_20 : decode cX6_hall 20 = .ok (.aload_n 0, 1) := dqr0 dqK_42 dqw_cX6_hall_0 20 rfl rfl
theorem dX6_hall_21 : decode cX6_hall 21 = .ok (.getfield 19, 3) := dqr2 dqK_180 dqw_cX6_hall_0 21 rfl rfl rfl rfl rfl
theorem dqw_cX6_hall_24 : dqLF cX6_hall 24 [27, 181, 0, 153, 28, 172] := by decide +kernel
theorem dX6_hall_24 : decode cX6_hall 24 = .ok (.iload_n 1, 1) := dqr0 dqK_27 dqw_cX6_hall_24 0 rfl rfl
theorem dX6_hall_25 : decode cX6_hall 25 = .ok (.putfield 153, 3) := dqr2 dqK_181 dqw_cX6_hall_24 1 rfl rfl rfl rfl rfl
theorem dX6_hall_28 : decode cX6_hall 28 = .ok (.iload_n 2, 1) := dqr0 dqK_28 dqw_cX6_hall_24 4 rfl rfl
theorem dX6_hall_29 : decode cX6_hall 29 = .ok (.ireturn, 1) := dqr0 dqK_172 dqw_cX6_hall_24 5 rfl rfl
theorem dqw_cX6_sing_0 : dqLF cX6_sing 0 [42, 180, 0, 19, 27, 182, 0, 156, 153, 0, 14, 42, 180, 0, 26, 28, 182, 0, 159, 154, 0, 5, 2, 172] := by decide +kernel
theorem dX6_sing_0 : decode cX6_sing 0 = .ok (.aload_n 0, 1) := dqr0 dqK_42 dqw_cX6_sing_0 0 rfl rfl
theorem dX6_sing_1 : decode cX6_sing 1 = .ok (.getfield 19, 3) := dqr2 dqK_180 dqw_cX6_sing_0 1 rfl rfl rfl rfl rfl
theorem dX6_sing_4 : decode cX6_sing 4 = .ok (.iload_n 1, 1) := dqr0 dqK_27 dqw_cX6_sing_0 4 rfl rfl
theorem dX6_sing_5 : decode cX6_sing 5 = .ok (.invokevirtual 156, 3) := dqr2 dqK_182 dqw_cX6_sing_0 5 rfl rfl rfl rfl rfl
theorem dX6_sing_8 : decode cX6_sing 8 = .ok (.ifCond .eq 14, 3) := dqrs2 dqK_153 dqw_cX6_sing_0 8 rfl rfl rfl rfl (by decide)
theorem dX6_sing_11 : decode cX6_sing 11 = .ok (.aload_n 0, 1) := dqr0 dqK_42 dqw_cX6_sing_0 11 rfl rfl
theorem dX6_sing_12 : decode cX6_sing 12 = .ok (.getfield 26, 3) := dqr2 dqK_180 dqw_cX6_sing_0 12 rfl rfl rfl rfl rfl
theorem dX6_sing_15 : decode cX6_sing 15 = .ok (.iload_n 2, 1) := dqr0 dqK_28 dqw_cX6_sing_0 15 rfl rfl
theorem dX6_sing_16 : decode cX6_sing 16 = .ok (.invokevirtual 159, 3) := dqr2 dqK_182 dqw_cX6_sing_0 16 rfl rfl rfl rfl rfl
theorem dX6_sing_19 : decode cX6_sing 19 = .ok (.ifCond .ne 5, 3) := dqrs2 dqK_154 dqw_cX6_sing_0 19 rfl rfl rfl rfl (by decide)
theorem dX6_sing_22 : decode cX6_sing 22 = .ok (.iconst (-1), 1) := dqr0 dqK_2 dqw_cX6_sing_0 22 rfl rfl
theorem dX6_sing_23 : decode cX6_sing 23 = .ok (.ireturn, 1) := dqr0 dqK_172 dqw_cX6_sing_0 23 rfl rfl
theorem dqw_cX6_sing_24 : dqLF cX6_sing 24 [29, 184, 0, 162, 153, 0, 10, 22, 4, 9, 148, 156, 0, 6, 16, 254, 172, 42, 180, 0, 35, 27, 42] := by decide +kernel
theorem dX6_sing_24 : decode cX6_sing 24 = .ok (.iload_n 3, 1) := dqr0 dqK_29 dqw_cX6_sing_24 0 rfl rfl
theorem dX6_sing_25 : decode cX6_sing 25 = .ok (.invokestatic 162, 3) := dqr2 dqK_184 dqw_cX6_sing_24 1 rfl rfl rfl rfl rfl
theorem dX6_sing_28 : decode cX6_sing 28 = .ok (.ifCond .eq 10, 3) := dqrs2 dqK_153 dqw_cX6_sing_24 4 rfl rfl rfl rfl (by decide)
theorem dX6_sing_31 : decode cX6_sing 31 = .ok (.lload 4, 2) := dqr1 dqK_22 dqw_cX6_sing_24 7 rfl rfl rfl
theorem dX6_sing_33 : decode cX6_sing 33 = .ok (.lconst 0, 1) := dqr0 dqK_9 dqw_cX6_sing_24 9 rfl rfl
theorem dX6_sing_34 : decode cX6_sing 34 = .ok (.lcmp, 1) := dqr0 dqK_148 dqw_cX6_sing_24 10 rfl rfl
theorem dX6_sing_35 : decode cX6_sing 35 = .ok (.ifCond .ge 6, 3) := dqrs2 dqK_156 dqw_cX6_sing_24 11 rfl rfl rfl rfl (by decide)
theorem dX6_sing_38 : decode cX6_sing 38 = .ok (.bipush (-2), 2) := dqrs1 dqK_16 dqw_cX6_sing_24 14 rfl rfl rfl (by decide)
theorem dX6_sing_40 : decode cX6_sing 40 = .ok (.ireturn, 1) := dqr0 dqK_172 dqw_cX6_sing_24 16 rfl rfl
theorem dX6_sing_41 : decode cX6_sing 41 = .ok (.aload_n 0, 1) := dqr0 dqK_42 dqw_cX6_sing_24 17 rfl rfl
theorem dX6_sing_42 : decode cX6_sing 42 = .ok (.getfield 35, 3) := dqr2 dqK_180 dqw_cX6_sing_24 18 rfl rfl rfl rfl rfl
theorem dX6_sing_45 : decode cX6_sing 45 = .ok (.iload_n 1, 1) := dqr0 dqK_27 dqw_cX6_sing_24 21 rfl rfl
theorem dX6_sing_46 : decode cX6_sing 46 = .ok (.aload_n 0, 1) := dqr0 dqK_42 dqw_cX6_sing_24 22 rfl rfl
theorem dqw_cX6_sing_47 : dqLF cX6_sing 47 [180, 0, 26, 28, 29, 2, 182, 0, 165, 22, 4, 182, 0, 169, 54, 6, 21, 6, 153, 0, 13, 42] := by decide +kernel
theorem dX6_sing_47 : decode cX6_sing 47 = .ok (.getfield 26, 3) := dqr2 dqK_180 dqw_cX6_sing_47 0 rfl rfl rfl rfl rfl
theorem dX6_sing_50 : decode cX6_sing 50 = .ok (.iload_n 2, 1) := dqr0 dqK_28 dqw_cX6_sing_47 3 rfl rfl
theorem dX6_sing_51 : decode cX6_sing 51 = .ok (.iload_n 3, 1) := dqr0 dqK_29 dqw_cX6_sing_47 4 rfl rfl
theorem dX6_sing_52 : decode cX6_sing 52 = .ok (.iconst (-1), 1) := dqr0 dqK_2 dqw_cX6_sing_47 5 rfl rfl
theorem dX6_sing_53 : decode cX6_sing 53 = .ok (.invokevirtual 165, 3) := dqr2 dqK_182 dqw_cX6_sing_47 6 rfl rfl rfl rfl rfl
theorem dX6_sing_56 : decode cX6_sing 56 = .ok (.lload 4, 2) := dqr1 dqK_22 dqw_cX6_sing_47 9 rfl rfl rfl
theorem dX6_sing_58 : decode cX6_sing 58 = .ok (.invokevirtual 169, 3) := dqr2 dqK_182 dqw_cX6_sing_47 11 rfl rfl rfl rfl rfl
theorem dX6_sing_61 : decode cX6_sing 61 = .ok (.istore 6, 2) := dqr1 dqK_54 dqw_cX6_sing_47 14 rfl rfl rfl
theorem dX6_sing_63 : decode cX6_sing 63 = .ok (.iload 6, 2) := dqr1 dqK_21 dqw_cX6_sing_47 16 rfl rfl rfl
theorem dX6_sing_65 : decode cX6_sing 65 = .ok (.ifCond .eq 13, 3) := dqrs2 dqK_153 dqw_cX6_sing_47 18 rfl rfl rfl rfl (by decide)
theorem dX6_sing_68 : decode cX6_sing 68 = .ok (.aload_n 0, 1) := dqr0 dqK_42 dqw_cX6_sing_47 21 rfl rfl
theorem dqw_cX6_sing_69 : dqLF cX6_sing 69 [180, 0, 35, 180, 0, 173, 167, 0, 5, 16, 253, 172] := by decide +kernel
theorem dX6_sing_69 : decode cX6_sing 69 = .ok (.getfield 35, 3) := dqr2 dqK_180 dqw_cX6_sing_69 0 rfl rfl rfl rfl rfl
theorem dX6_sing_72 : decode cX6_sing 72 = .ok (.getfield 173, 3) := dqr2 dqK_180 dqw_cX6_sing_69 3 rfl rfl rfl rfl rfl
theorem dX6_sing_75 : decode cX6_sing 75 = .ok (.goto 5, 3) := dqrs2 dqK_167 dqw_cX6_sing_69 6 rfl rfl rfl rfl (by decide)
theorem dX6_sing_78 : decode cX6_sing 78 = .ok (.bipush (-3), 2) := dqrs1 dqK_16 dqw_cX6_sing_69 9 rfl rfl rfl (by decide)
theorem dX6_sing_80 : decode cX6_sing 80 = .ok (.ireturn, 1) := dqr0 dqK_172 dqw_cX6_sing_69 11 rfl rfl
theorem dqw_cX6_sung_0 : dqLF cX6_sung 0 [27, 3, 42, 180, 0, 35, 180, 0, 173, 4, 100, 184, 0, 61, 153, 0, 15, 42, 180, 0, 35, 180, 0, 176] := by decide +kernel
theorem dX6_sung_0 : decode cX6_sung 0 = .ok (.iload_n 1, 1) := dqr0 dqK_27 dqw_cX6_sung_0 0 rfl rfl
theorem dX6_sung_1 : decode cX6_sung 1 = .ok (.iconst 0, 1) := dqr0 dqK_3 dqw_cX6_sung_0 1 rfl rfl
theorem dX6_sung_2 : decode cX6_sung 2 = .ok (.aload_n 0, 1) := dqr0 dqK_42 dqw_cX6_sung_0 2 rfl rfl
theorem dX6_sung_3 : decode cX6_sung 3 = .ok (.getfield 35, 3) := dqr2 dqK_180 dqw_cX6_sung_0 3 rfl rfl rfl rfl rfl
theorem dX6_sung_6 : decode cX6_sung 6 = .ok (.getfield 173, 3) := dqr2 dqK_180 dqw_cX6_sung_0 6 rfl rfl rfl rfl rfl
theorem dX6_sung_9 : decode cX6_sung 9 = .ok (.iconst 1, 1) := dqr0 dqK_4 dqw_cX6_sung_0 9 rfl rfl
theorem dX6_sung_10 : decode cX6_sung 10 = .ok (.isub, 1) := dqr0 dqK_100 dqw_cX6_sung_0 10 rfl rfl
theorem dX6_sung_11 : decode cX6_sung 11 = .ok (.invokestatic 61, 3) := dqr2 dqK_184 dqw_cX6_sung_0 11 rfl rfl rfl rfl rfl
theorem dX6_sung_14 : decode cX6_sung 14 = .ok (.ifCond .eq 15, 3) := dqrs2 dqK_153 dqw_cX6_sung_0 14 rfl rfl rfl rfl (by decide)
theorem dX6_sung_17 : decode cX6_sung 17 = .ok (.aload_n 0, 1) := dqr0 dqK_42 dqw_cX6_sung_0 17 rfl rfl
theorem dX6_sung_18 : decode cX6_sung 18 = .ok (.getfield 35, 3) := dqr2 dqK_180 dqw_cX6_sung_0 18 rfl rfl rfl rfl rfl
theorem dX6_sung_21 : decode cX6_sung 21 = .ok (.getfield 176, 3) := dqr2 dqK_180 dqw_cX6_sung_0 21 rfl rfl rfl rfl rfl
theorem dqw_cX6_sung_24 : dqLF cX6_sung 24 [27, 46, 167, 0, 4, 2, 172] := by decide +kernel
theorem dX6_sung_24 : decode cX6_sung 24 = .ok (.iload_n 1, 1) := dqr0 dqK_27 dqw_cX6_sung_24 0 rfl rfl
theorem dX6_sung_25 : decode cX6_sung 25 = .ok (.iaload, 1) := dqr0 dqK_46 dqw_cX6_sung_24 1 rfl rfl
theorem dX6_sung_26 : decode cX6_sung 26 = .ok (.goto 4, 3) := dqrs2 dqK_167 dqw_cX6_sung_24 2 rfl rfl rfl rfl (by decide)
theorem dX6_sung_29 : decode cX6_sung 29 = .ok (.iconst (-1), 1) := dqr0 dqK_2 dqw_cX6_sung_24 5 rfl rfl
theorem dX6_sung_30 : decode cX6_sung 30 = .ok (.ireturn, 1) := dqr0 dqK_172 dqw_cX6_sung_24 6 rfl rfl
theorem dqw_cX6_singer_0 : dqLF cX6_singer 0 [27, 184, 0, 162, 154, 0, 6, 16, 254, 172, 42, 180, 0, 26, 180, 0, 179, 16, 8, 161, 0, 6, 16, 252] := by decide +kernel
theorem dX6_singer_0 : decode cX6_singer 0 = .ok (.iload_n 1, 1) := dqr0 dqK_27 dqw_cX6_singer_0 0 rfl rfl
theorem dX6_singer_1 : decode cX6_singer 1 = .ok (.invokestatic 162, 3) := dqr2 dqK_184 dqw_cX6_singer_0 1 rfl rfl rfl rfl rfl
theorem dX6_singer_4 : decode cX6_singer 4 = .ok (.ifCond .ne 6, 3) := dqrs2 dqK_154 dqw_cX6_singer_0 4 rfl rfl rfl rfl (by decide)
theorem dX6_singer_7 : decode cX6_singer 7 = .ok (.bipush (-2), 2) := dqrs1 dqK_16 dqw_cX6_singer_0 7 rfl rfl rfl (by decide)
theorem dX6_singer_9 : decode cX6_singer 9 = .ok (.ireturn, 1) := dqr0 dqK_172 dqw_cX6_singer_0 9 rfl rfl
theorem dX6_singer_10 : decode cX6_singer 10 = .ok (.aload_n 0, 1) := dqr0 dqK_42 dqw_cX6_singer_0 10 rfl rfl
theorem dX6_singer_11 : decode cX6_singer 11 = .ok (.getfield 26, 3) := dqr2 dqK_180 dqw_cX6_singer_0 11 rfl rfl rfl rfl rfl
theorem dX6_singer_14 : decode cX6_singer 14 = .ok (.getfield 179, 3) := dqr2 dqK_180 dqw_cX6_singer_0 14 rfl rfl rfl rfl rfl
theorem dX6_singer_17 : decode cX6_singer 17 = .ok (.bipush 8, 2) := dqrs1 dqK_16 dqw_cX6_singer_0 17 rfl rfl rfl (by decide)
theorem dX6_singer_19 : decode cX6_singer 19 = .ok (.if_icmp .lt 6, 3) := dqrs2 dqK_161 dqw_cX6_singer_0 19 rfl rfl rfl rfl (by decide)
theorem dX6_singer_22 : decode cX6_singer 22 = .ok (.bipush (-4), 2) := dqrs1 dqK_16 dqw_cX6_singer_0 22 rfl rfl rfl (by decide)
theorem dqw_cX6_singer_24 : dqLF cX6_singer 24 [172, 42, 180, 0, 26, 27, 182, 0, 182, 172] := by decide +kernel
theorem dX6_singer_24 : decode cX6_singer 24 = .ok (.ireturn, 1) := dqr0 dqK_172 dqw_cX6_singer_24 0 rfl rfl
theorem dX6_singer_25 : decode cX6_singer 25 = .ok (.aload_n 0, 1) := dqr0 dqK_42 dqw_cX6_singer_24 1 rfl rfl
theorem dX6_singer_26 : decode cX6_singer 26 = .ok (.getfield 26, 3) := dqr2 dqK_180 dqw_cX6_singer_24 2 rfl rfl rfl rfl rfl
theorem dX6_singer_29 : decode cX6_singer 29 = .ok (.iload_n 1, 1) := dqr0 dqK_27 dqw_cX6_singer_24 5 rfl rfl
theorem dX6_singer_30 : decode cX6_singer 30 = .ok (.invokevirtual 182, 3) := dqr2 dqK_182 dqw_cX6_singer_24 6 rfl rfl rfl rfl rfl
theorem dX6_singer_33 : decode cX6_singer 33 = .ok (.ireturn, 1) := dqr0 dqK_172 dqw_cX6_singer_24 9 rfl rfl
theorem dqw_cX6_village_0 : dqLF cX6_village 0 [42, 180, 0, 26, 27, 182, 0, 159, 154, 0, 5, 2, 172, 28, 3, 16, 9, 184, 0, 61, 154, 0, 6] := by decide +kernel
theorem dX6_village_0 : decode cX6_village 0 = .ok (.aload_n 0, 1) := dqr0 dqK_42 dqw_cX6_village_0 0 rfl rfl
theorem dX6_village_1 : decode cX6_village 1 = .ok (.getfield 26, 3) := dqr2 dqK_180 dqw_cX6_village_0 1 rfl rfl rfl rfl rfl
theorem dX6_village_4 : decode cX6_village 4 = .ok (.iload_n 1, 1) := dqr0 dqK_27 dqw_cX6_village_0 4 rfl rfl
theorem dX6_village_5 : decode cX6_village 5 = .ok (.invokevirtual 159, 3) := dqr2 dqK_182 dqw_cX6_village_0 5 rfl rfl rfl rfl rfl
theorem dX6_village_8 : decode cX6_village 8 = .ok (.ifCond .ne 5, 3) := dqrs2 dqK_154 dqw_cX6_village_0 8 rfl rfl rfl rfl (by decide)
theorem dX6_village_11 : decode cX6_village 11 = .ok (.iconst (-1), 1) := dqr0 dqK_2 dqw_cX6_village_0 11 rfl rfl
theorem dX6_village_12 : decode cX6_village 12 = .ok (.ireturn, 1) := dqr0 dqK_172 dqw_cX6_village_0 12 rfl rfl
theorem dX6_village_13 : decode cX6_village 13 = .ok (.iload_n 2, 1) := dqr0 dqK_28 dqw_cX6_village_0 13 rfl rfl
theorem dX6_village_14 : decode cX6_village 14 = .ok (.iconst 0, 1) := dqr0 dqK_3 dqw_cX6_village_0 14 rfl rfl
theorem dX6_village_15 : decode cX6_village 15 = .ok (.bipush 9, 2) := dqrs1 dqK_16 dqw_cX6_village_0 15 rfl rfl rfl (by decide)
theorem dX6_village_17 : decode cX6_village 17 = .ok (.invokestatic 61, 3) := dqr2 dqK_184 dqw_cX6_village_0 17 rfl rfl rfl rfl rfl
theorem dX6_village_20 : decode cX6_village 20 = .ok (.ifCond .ne 6, 3) := dqrs2 dqK_154 dqw_cX6_village_0 20 rfl rfl rfl rfl (by decide)
theorem dqw_cX6_village_23 : dqLF cX6_village 23 [16, 254, 172, 42, 180, 0, 26, 180, 0, 185, 27, 46, 62, 42, 180, 0, 26, 180, 0, 185, 27, 28, 79, 29] := by decide +kernel
theorem dX6_village_23 : decode cX6_village 23 = .ok (.bipush (-2), 2) := dqrs1 dqK_16 dqw_cX6_village_23 0 rfl rfl rfl (by decide)
theorem dX6_village_25 : decode cX6_village 25 = .ok (.ireturn, 1) := dqr0 dqK_172 dqw_cX6_village_23 2 rfl rfl
theorem dX6_village_26 : decode cX6_village 26 = .ok (.aload_n 0, 1) := dqr0 dqK_42 dqw_cX6_village_23 3 rfl rfl
theorem dX6_village_27 : decode cX6_village 27 = .ok (.getfield 26, 3) := dqr2 dqK_180 dqw_cX6_village_23 4 rfl rfl rfl rfl rfl
theorem dX6_village_30 : decode cX6_village 30 = .ok (.getfield 185, 3) := dqr2 dqK_180 dqw_cX6_village_23 7 rfl rfl rfl rfl rfl
theorem dX6_village_33 : decode cX6_village 33 = .ok (.iload_n 1, 1) := dqr0 dqK_27 dqw_cX6_village_23 10 rfl rfl
theorem dX6_village_34 : decode cX6_village 34 = .ok (.iaload, 1) := dqr0 dqK_46 dqw_cX6_village_23 11 rfl rfl
theorem dX6_village_35 : decode cX6_village 35 = .ok (.istore_n 3, 1) := dqr0 dqK_62 dqw_cX6_village_23 12 rfl rfl
theorem dX6_village_36 : decode cX6_village 36 = .ok (.aload_n 0, 1) := dqr0 dqK_42 dqw_cX6_village_23 13 rfl rfl
theorem dX6_village_37 : decode cX6_village 37 = .ok (.getfield 26, 3) := dqr2 dqK_180 dqw_cX6_village_23 14 rfl rfl rfl rfl rfl
theorem dX6_village_40 : decode cX6_village 40 = .ok (.getfield 185, 3) := dqr2 dqK_180 dqw_cX6_village_23 17 rfl rfl rfl rfl rfl
theorem dX6_village_43 : decode cX6_village 43 = .ok (.iload_n 1, 1) := dqr0 dqK_27 dqw_cX6_village_23 20 rfl rfl
theorem dX6_village_44 : decode cX6_village 44 = .ok (.iload_n 2, 1) := dqr0 dqK_28 dqw_cX6_village_23 21 rfl rfl
theorem dX6_village_45 : decode cX6_village 45 = .ok (.iastore, 1) := dqr0 dqK_79 dqw_cX6_village_23 22 rfl rfl
theorem dX6_village_46 : decode cX6_village 46 = .ok (.iload_n 3, 1) := dqr0 dqK_29 dqw_cX6_village_23 23 rfl rfl
theorem dqw_cX6_village_47 : dqLF cX6_village 47 [172] := by decide +kernel
theorem dX6_village_47 : decode cX6_village 47 = .ok (.ireturn, 1) := dqr0 dqK_172 dqw_cX6_village_47 0 rfl rfl
theorem dqw_cX6_learn_0 : dqLF cX6_learn 0 [42, 180, 0, 26, 27, 182, 0, 159, 153, 0, 14, 42, 180, 0, 10, 28, 182, 0, 96, 154, 0, 5, 2, 172] := by decide +kernel
theorem dX6_learn_0 : decode cX6_learn 0 = .ok (.aload_n 0, 1) := dqr0 dqK_42 dqw_cX6_learn_0 0 rfl rfl
theorem dX6_learn_1 : decode cX6_learn 1 = .ok (.getfield 26, 3) := dqr2 dqK_180 dqw_cX6_learn_0 1 rfl rfl rfl rfl rfl
theorem dX6_learn_4 : decode cX6_learn 4 = .ok (.iload_n 1, 1) := dqr0 dqK_27 dqw_cX6_learn_0 4 rfl rfl
theorem dX6_learn_5 : decode cX6_learn 5 = .ok (.invokevirtual 159, 3) := dqr2 dqK_182 dqw_cX6_learn_0 5 rfl rfl rfl rfl rfl
theorem dX6_learn_8 : decode cX6_learn 8 = .ok (.ifCond .eq 14, 3) := dqrs2 dqK_153 dqw_cX6_learn_0 8 rfl rfl rfl rfl (by decide)
theorem dX6_learn_11 : decode cX6_learn 11 = .ok (.aload_n 0, 1) := dqr0 dqK_42 dqw_cX6_learn_0 11 rfl rfl
theorem dX6_learn_12 : decode cX6_learn 12 = .ok (.getfield 10, 3) := dqr2 dqK_180 dqw_cX6_learn_0 12 rfl rfl rfl rfl rfl
theorem dX6_learn_15 : decode cX6_learn 15 = .ok (.iload_n 2, 1) := dqr0 dqK_28 dqw_cX6_learn_0 15 rfl rfl
theorem dX6_learn_16 : decode cX6_learn 16 = .ok (.invokevirtual 96, 3) := dqr2 dqK_182 dqw_cX6_learn_0 16 rfl rfl rfl rfl rfl
theorem dX6_learn_19 : decode cX6_learn 19 = .ok (.ifCond .ne 5, 3) := dqrs2 dqK_154 dqw_cX6_learn_0 19 rfl rfl rfl rfl (by decide)
theorem dX6_learn_22 : decode cX6_learn 22 = .ok (.iconst (-1), 1) := dqr0 dqK_2 dqw_cX6_learn_0 22 rfl rfl
theorem dX6_learn_23 : decode cX6_learn 23 = .ok (.ireturn, 1) := dqr0 dqK_172 dqw_cX6_learn_0 23 rfl rfl
theorem dqw_cX6_learn_24 : dqLF cX6_learn 24 [29, 2, 159, 0, 16, 42, 180, 0, 26, 29, 182, 0, 159, 154, 0, 5, 2, 172, 21, 4, 184, 0, 162] := by decide +kernel
theorem dX6_learn_24 : decode cX6_learn 24 = .ok (.iload_n 3, 1) := dqr0 dqK_29 dqw_cX6_learn_24 0 rfl rfl
theorem dX6_learn_25 : decode cX6_learn 25 = .ok (.iconst (-1), 1) := dqr0 dqK_2 dqw_cX6_learn_24 1 rfl rfl
theorem dX6_learn_26 : decode cX6_learn 26 = .ok (.if_icmp .eq 16, 3) := dqrs2 dqK_159 dqw_cX6_learn_24 2 rfl rfl rfl rfl (by decide)
theorem dX6_learn_29 : decode cX6_learn 29 = .ok (.aload_n 0, 1) := dqr0 dqK_42 dqw_cX6_learn_24 5 rfl rfl
theorem dX6_learn_30 : decode cX6_learn 30 = .ok (.getfield 26, 3) := dqr2 dqK_180 dqw_cX6_learn_24 6 rfl rfl rfl rfl rfl
theorem dX6_learn_33 : decode cX6_learn 33 = .ok (.iload_n 3, 1) := dqr0 dqK_29 dqw_cX6_learn_24 9 rfl rfl
theorem dX6_learn_34 : decode cX6_learn 34 = .ok (.invokevirtual 159, 3) := dqr2 dqK_182 dqw_cX6_learn_24 10 rfl rfl rfl rfl rfl
theorem dX6_learn_37 : decode cX6_learn 37 = .ok (.ifCond .ne 5, 3) := dqrs2 dqK_154 dqw_cX6_learn_24 13 rfl rfl rfl rfl (by decide)
theorem dX6_learn_40 : decode cX6_learn 40 = .ok (.iconst (-1), 1) := dqr0 dqK_2 dqw_cX6_learn_24 16 rfl rfl
theorem dX6_learn_41 : decode cX6_learn 41 = .ok (.ireturn, 1) := dqr0 dqK_172 dqw_cX6_learn_24 17 rfl rfl
theorem dX6_learn_42 : decode cX6_learn 42 = .ok (.iload 4, 2) := dqr1 dqK_21 dqw_cX6_learn_24 18 rfl rfl rfl
theorem dX6_learn_44 : decode cX6_learn 44 = .ok (.invokestatic 162, 3) := dqr2 dqK_184 dqw_cX6_learn_24 20 rfl rfl rfl rfl rfl
theorem dqw_cX6_learn_47 : dqLF cX6_learn 47 [153, 0, 8, 29, 27, 160, 0, 6, 16, 254, 172, 42, 180, 0, 26, 180, 0, 188, 17, 0, 200, 161, 0, 6] := by decide +kernel
theorem dX6_learn_47 : decode cX6_learn 47 = .ok (.ifCond .eq 8, 3) := dqrs2 dqK_153 dqw_cX6_learn_47 0 rfl rfl rfl rfl (by decide)
theorem dX6_learn_50 : decode cX6_learn 50 = .ok (.iload_n 3, 1) := dqr0 dqK_29 dqw_cX6_learn_47 3 rfl rfl
theorem dX6_learn_51 : decode cX6_learn 51 = .ok (.iload_n 1, 1) := dqr0 dqK_27 dqw_cX6_learn_47 4 rfl rfl
theorem dX6_learn_52 : decode cX6_learn 52 = .ok (.if_icmp .ne 6, 3) := dqrs2 dqK_160 dqw_cX6_learn_47 5 rfl rfl rfl rfl (by decide)
theorem dX6_learn_55 : decode cX6_learn 55 = .ok (.bipush (-2), 2) := dqrs1 dqK_16 dqw_cX6_learn_47 8 rfl rfl rfl (by decide)
theorem dX6_learn_57 : decode cX6_learn 57 = .ok (.ireturn, 1) := dqr0 dqK_172 dqw_cX6_learn_47 10 rfl rfl
theorem dX6_learn_58 : decode cX6_learn 58 = .ok (.aload_n 0, 1) := dqr0 dqK_42 dqw_cX6_learn_47 11 rfl rfl
theorem dX6_learn_59 : decode cX6_learn 59 = .ok (.getfield 26, 3) := dqr2 dqK_180 dqw_cX6_learn_47 12 rfl rfl rfl rfl rfl
theorem dX6_learn_62 : decode cX6_learn 62 = .ok (.getfield 188, 3) := dqr2 dqK_180 dqw_cX6_learn_47 15 rfl rfl rfl rfl rfl
theorem dX6_learn_65 : decode cX6_learn 65 = .ok (.sipush 200, 3) := dqrs2 dqK_17 dqw_cX6_learn_47 18 rfl rfl rfl rfl (by decide)
theorem dX6_learn_68 : decode cX6_learn 68 = .ok (.if_icmp .lt 6, 3) := dqrs2 dqK_161 dqw_cX6_learn_47 21 rfl rfl rfl rfl (by decide)
theorem dqw_cX6_learn_71 : dqLF cX6_learn 71 [16, 252, 172, 42, 180, 0, 26, 27, 28, 21, 4, 4, 182, 0, 191, 172] := by decide +kernel
theorem dX6_learn_71 : decode cX6_learn 71 = .ok (.bipush (-4), 2) := dqrs1 dqK_16 dqw_cX6_learn_71 0 rfl rfl rfl (by decide)
theorem dX6_learn_73 : decode cX6_learn 73 = .ok (.ireturn, 1) := dqr0 dqK_172 dqw_cX6_learn_71 2 rfl rfl
theorem dX6_learn_74 : decode cX6_learn 74 = .ok (.aload_n 0, 1) := dqr0 dqK_42 dqw_cX6_learn_71 3 rfl rfl
theorem dX6_learn_75 : decode cX6_learn 75 = .ok (.getfield 26, 3) := dqr2 dqK_180 dqw_cX6_learn_71 4 rfl rfl rfl rfl rfl
theorem dX6_learn_78 : decode cX6_learn 78 = .ok (.iload_n 1, 1) := dqr0 dqK_27 dqw_cX6_learn_71 7 rfl rfl
theorem dX6_learn_79 : decode cX6_learn 79 = .ok (.iload_n 2, 1) := dqr0 dqK_28 dqw_cX6_learn_71 8 rfl rfl
theorem dX6_learn_80 : decode cX6_learn 80 = .ok (.iload 4, 2) := dqr1 dqK_21 dqw_cX6_learn_71 9 rfl rfl rfl
theorem dX6_learn_82 : decode cX6_learn 82 = .ok (.iconst 1, 1) := dqr0 dqK_4 dqw_cX6_learn_71 11 rfl rfl
theorem dX6_learn_83 : decode cX6_learn 83 = .ok (.invokevirtual 191, 3) := dqr2 dqK_182 dqw_cX6_learn_71 12 rfl rfl rfl rfl rfl
theorem dX6_learn_86 : decode cX6_learn 86 = .ok (.ireturn, 1) := dqr0 dqK_172 dqw_cX6_learn_71 15 rfl rfl
theorem dqw_cX6_forget_0 : dqLF cX6_forget 0 [42, 180, 0, 26, 27, 182, 0, 159, 153, 0, 14, 42, 180, 0, 10, 28, 182, 0, 96, 154, 0, 5, 2, 172] := by decide +kernel
theorem dX6_forget_0 : decode cX6_forget 0 = .ok (.aload_n 0, 1) := dqr0 dqK_42 dqw_cX6_forget_0 0 rfl rfl
theorem dX6_forget_1 : decode cX6_forget 1 = .ok (.getfield 26, 3) := dqr2 dqK_180 dqw_cX6_forget_0 1 rfl rfl rfl rfl rfl
theorem dX6_forget_4 : decode cX6_forget 4 = .ok (.iload_n 1, 1) := dqr0 dqK_27 dqw_cX6_forget_0 4 rfl rfl
theorem dX6_forget_5 : decode cX6_forget 5 = .ok (.invokevirtual 159, 3) := dqr2 dqK_182 dqw_cX6_forget_0 5 rfl rfl rfl rfl rfl
theorem dX6_forget_8 : decode cX6_forget 8 = .ok (.ifCond .eq 14, 3) := dqrs2 dqK_153 dqw_cX6_forget_0 8 rfl rfl rfl rfl (by decide)
theorem dX6_forget_11 : decode cX6_forget 11 = .ok (.aload_n 0, 1) := dqr0 dqK_42 dqw_cX6_forget_0 11 rfl rfl
theorem dX6_forget_12 : decode cX6_forget 12 = .ok (.getfield 10, 3) := dqr2 dqK_180 dqw_cX6_forget_0 12 rfl rfl rfl rfl rfl
theorem dX6_forget_15 : decode cX6_forget 15 = .ok (.iload_n 2, 1) := dqr0 dqK_28 dqw_cX6_forget_0 15 rfl rfl
theorem dX6_forget_16 : decode cX6_forget 16 = .ok (.invokevirtual 96, 3) := dqr2 dqK_182 dqw_cX6_forget_0 16 rfl rfl rfl rfl rfl
theorem dX6_forget_19 : decode cX6_forget 19 = .ok (.ifCond .ne 5, 3) := dqrs2 dqK_154 dqw_cX6_forget_0 19 rfl rfl rfl rfl (by decide)
theorem dX6_forget_22 : decode cX6_forget 22 = .ok (.iconst (-1), 1) := dqr0 dqK_2 dqw_cX6_forget_0 22 rfl rfl
theorem dX6_forget_23 : decode cX6_forget 23 = .ok (.ireturn, 1) := dqr0 dqK_172 dqw_cX6_forget_0 23 rfl rfl
theorem dqw_cX6_forget_24 : dqLF cX6_forget 24 [29, 184, 0, 162, 154, 0, 6, 16, 254, 172, 42, 180, 0, 26, 180, 0, 188, 17, 0, 200, 161, 0, 6] := by decide +kernel
theorem dX6_forget_24 : decode cX6_forget 24 = .ok (.iload_n 3, 1) := dqr0 dqK_29 dqw_cX6_forget_24 0 rfl rfl
theorem dX6_forget_25 : decode cX6_forget 25 = .ok (.invokestatic 162, 3) := dqr2 dqK_184 dqw_cX6_forget_24 1 rfl rfl rfl rfl rfl
theorem dX6_forget_28 : decode cX6_forget 28 = .ok (.ifCond .ne 6, 3) := dqrs2 dqK_154 dqw_cX6_forget_24 4 rfl rfl rfl rfl (by decide)
theorem dX6_forget_31 : decode cX6_forget 31 = .ok (.bipush (-2), 2) := dqrs1 dqK_16 dqw_cX6_forget_24 7 rfl rfl rfl (by decide)
theorem dX6_forget_33 : decode cX6_forget 33 = .ok (.ireturn, 1) := dqr0 dqK_172 dqw_cX6_forget_24 9 rfl rfl
theorem dX6_forget_34 : decode cX6_forget 34 = .ok (.aload_n 0, 1) := dqr0 dqK_42 dqw_cX6_forget_24 10 rfl rfl
theorem dX6_forget_35 : decode cX6_forget 35 = .ok (.getfield 26, 3) := dqr2 dqK_180 dqw_cX6_forget_24 11 rfl rfl rfl rfl rfl
theorem dX6_forget_38 : decode cX6_forget 38 = .ok (.getfield 188, 3) := dqr2 dqK_180 dqw_cX6_forget_24 14 rfl rfl rfl rfl rfl
theorem dX6_forget_41 : decode cX6_forget 41 = .ok (.sipush 200, 3) := dqrs2 dqK_17 dqw_cX6_forget_24 17 rfl rfl rfl rfl (by decide)
theorem dX6_forget_44 : decode cX6_forget 44 = .ok (.if_icmp .lt 6, 3) := dqrs2 dqK_161 dqw_cX6_forget_24 20 rfl rfl rfl rfl (by decide)
theorem dqw_cX6_forget_47 : dqLF cX6_forget 47 [16, 252, 172, 42, 180, 0, 26, 27, 28, 29, 3, 182, 0, 191, 172] := by decide +kernel
theorem dX6_forget_47 : decode cX6_forget 47 = .ok (.bipush (-4), 2) := dqrs1 dqK_16 dqw_cX6_forget_47 0 rfl rfl rfl (by decide)
theorem dX6_forget_49 : decode cX6_forget 49 = .ok (.ireturn, 1) := dqr0 dqK_172 dqw_cX6_forget_47 2 rfl rfl
theorem dX6_forget_50 : decode cX6_forget 50 = .ok (.aload_n 0, 1) := dqr0 dqK_42 dqw_cX6_forget_47 3 rfl rfl
theorem dX6_forget_51 : decode cX6_forget 51 = .ok (.getfield 26, 3) := dqr2 dqK_180 dqw_cX6_forget_47 4 rfl rfl rfl rfl rfl
theorem dX6_forget_54 : decode cX6_forget 54 = .ok (.iload_n 1, 1) := dqr0 dqK_27 dqw_cX6_forget_47 7 rfl rfl
theorem dX6_forget_55 : decode cX6_forget 55 = .ok (.iload_n 2, 1) := dqr0 dqK_28 dqw_cX6_forget_47 8 rfl rfl
theorem dX6_forget_56 : decode cX6_forget 56 = .ok (.iload_n 3, 1) := dqr0 dqK_29 dqw_cX6_forget_47 9 rfl rfl
theorem dX6_forget_57 : decode cX6_forget 57 = .ok (.iconst 0, 1) := dqr0 dqK_3 dqw_cX6_forget_47 10 rfl rfl
theorem dX6_forget_58 : decode cX6_forget 58 = .ok (.invokevirtual 191, 3) := dqr2 dqK_182 dqw_cX6_forget_47 11 rfl rfl rfl rfl rfl
theorem dX6_forget_61 : decode cX6_forget 61 = .ok (.ireturn, 1) := dqr0 dqK_172 dqw_cX6_forget_47 14 rfl rfl
theorem dqw_cX6_has_0 : dqLF cX6_has 0 [42, 180, 0, 26, 27, 182, 0, 159, 153, 0, 26, 42, 180, 0, 10, 28, 182, 0, 96, 153, 0, 15, 42] := by decide +kernel
theorem dX6_has_0 : decode cX6_has 0 = .ok (.aload_n 0, 1) := dqr0 dqK_42 dqw_cX6_has_0 0 rfl rfl
theorem dX6_has_1 : decode cX6_has 1 = .ok (.getfield 26, 3) := dqr2 dqK_180 dqw_cX6_has_0 1 rfl rfl rfl rfl rfl
theorem dX6_has_4 : decode cX6_has 4 = .ok (.iload_n 1, 1) := dqr0 dqK_27 dqw_cX6_has_0 4 rfl rfl
theorem dX6_has_5 : decode cX6_has 5 = .ok (.invokevirtual 159, 3) := dqr2 dqK_182 dqw_cX6_has_0 5 rfl rfl rfl rfl rfl
theorem dX6_has_8 : decode cX6_has 8 = .ok (.ifCond .eq 26, 3) := dqrs2 dqK_153 dqw_cX6_has_0 8 rfl rfl rfl rfl (by decide)
theorem dX6_has_11 : decode cX6_has 11 = .ok (.aload_n 0, 1) := dqr0 dqK_42 dqw_cX6_has_0 11 rfl rfl
theorem dX6_has_12 : decode cX6_has 12 = .ok (.getfield 10, 3) := dqr2 dqK_180 dqw_cX6_has_0 12 rfl rfl rfl rfl rfl
theorem dX6_has_15 : decode cX6_has 15 = .ok (.iload_n 2, 1) := dqr0 dqK_28 dqw_cX6_has_0 15 rfl rfl
theorem dX6_has_16 : decode cX6_has 16 = .ok (.invokevirtual 96, 3) := dqr2 dqK_182 dqw_cX6_has_0 16 rfl rfl rfl rfl rfl
theorem dX6_has_19 : decode cX6_has 19 = .ok (.ifCond .eq 15, 3) := dqrs2 dqK_153 dqw_cX6_has_0 19 rfl rfl rfl rfl (by decide)
theorem dX6_has_22 : decode cX6_has 22 = .ok (.aload_n 0, 1) := dqr0 dqK_42 dqw_cX6_has_0 22 rfl rfl
theorem dqw_cX6_has_23 : dqLF cX6_has 23 [180, 0, 26, 21, 4, 182, 0, 195, 154, 0, 5, 2, 172, 29, 184, 0, 162, 154, 0, 6, 16, 254, 172, 42] := by decide +kernel
theorem dX6_has_23 : decode cX6_has 23 = .ok (.getfield 26, 3) := dqr2 dqK_180 dqw_cX6_has_23 0 rfl rfl rfl rfl rfl
theorem dX6_has_26 : decode cX6_has 26 = .ok (.iload 4, 2) := dqr1 dqK_21 dqw_cX6_has_23 3 rfl rfl rfl
theorem dX6_has_28 : decode cX6_has 28 = .ok (.invokevirtual 195, 3) := dqr2 dqK_182 dqw_cX6_has_23 5 rfl rfl rfl rfl rfl
theorem dX6_has_31 : decode cX6_has 31 = .ok (.ifCond .ne 5, 3) := dqrs2 dqK_154 dqw_cX6_has_23 8 rfl rfl rfl rfl (by decide)
theorem dX6_has_34 : decode cX6_has 34 = .ok (.iconst (-1), 1) := dqr0 dqK_2 dqw_cX6_has_23 11 rfl rfl
theorem dX6_has_35 : decode cX6_has 35 = .ok (.ireturn, 1) := dqr0 dqK_172 dqw_cX6_has_23 12 rfl rfl
theorem dX6_has_36 : decode cX6_has 36 = .ok (.iload_n 3, 1) := dqr0 dqK_29 dqw_cX6_has_23 13 rfl rfl
theorem dX6_has_37 : decode cX6_has 37 = .ok (.invokestatic 162, 3) := dqr2 dqK_184 dqw_cX6_has_23 14 rfl rfl rfl rfl rfl
theorem dX6_has_40 : decode cX6_has 40 = .ok (.ifCond .ne 6, 3) := dqrs2 dqK_154 dqw_cX6_has_23 17 rfl rfl rfl rfl (by decide)
theorem dX6_has_43 : decode cX6_has 43 = .ok (.bipush (-2), 2) := dqrs1 dqK_16 dqw_cX6_has_23 20 rfl rfl rfl (by decide)
theorem dX6_has_45 : decode cX6_has 45 = .ok (.ireturn, 1) := dqr0 dqK_172 dqw_cX6_has_23 22 rfl rfl
theorem dX6_has_46 : decode cX6_has 46 = .ok (.aload_n 0, 1) := dqr0 dqK_42 dqw_cX6_has_23 23 rfl rfl
theorem dqw_cX6_has_47 : dqLF cX6_has 47 [180, 0, 26, 27, 29, 21, 4, 182, 0, 165, 28, 184, 0, 115, 172] := by decide +kernel
theorem dX6_has_47 : decode cX6_has 47 = .ok (.getfield 26, 3) := dqr2 dqK_180 dqw_cX6_has_47 0 rfl rfl rfl rfl rfl
theorem dX6_has_50 : decode cX6_has 50 = .ok (.iload_n 1, 1) := dqr0 dqK_27 dqw_cX6_has_47 3 rfl rfl
theorem dX6_has_51 : decode cX6_has 51 = .ok (.iload_n 3, 1) := dqr0 dqK_29 dqw_cX6_has_47 4 rfl rfl
theorem dX6_has_52 : decode cX6_has 52 = .ok (.iload 4, 2) := dqr1 dqK_21 dqw_cX6_has_47 5 rfl rfl rfl
theorem dX6_has_54 : decode cX6_has 54 = .ok (.invokevirtual 165, 3) := dqr2 dqK_182 dqw_cX6_has_47 7 rfl rfl rfl rfl rfl
theorem dX6_has_57 : decode cX6_has 57 = .ok (.iload_n 2, 1) := dqr0 dqK_28 dqw_cX6_has_47 10 rfl rfl
theorem dX6_has_58 : decode cX6_has 58 = .ok (.invokestatic 115, 3) := dqr2 dqK_184 dqw_cX6_has_47 11 rfl rfl rfl rfl rfl
theorem dX6_has_61 : decode cX6_has 61 = .ok (.ireturn, 1) := dqr0 dqK_172 dqw_cX6_has_47 14 rfl rfl
theorem dqw_cX6_stock_0 : dqLF cX6_stock 0 [42, 180, 0, 26, 27, 182, 0, 159, 153, 0, 14, 42, 180, 0, 26, 29, 182, 0, 195, 154, 0, 5, 2, 172] := by decide +kernel
theorem dX6_stock_0 : decode cX6_stock 0 = .ok (.aload_n 0, 1) := dqr0 dqK_42 dqw_cX6_stock_0 0 rfl rfl
theorem dX6_stock_1 : decode cX6_stock 1 = .ok (.getfield 26, 3) := dqr2 dqK_180 dqw_cX6_stock_0 1 rfl rfl rfl rfl rfl
theorem dX6_stock_4 : decode cX6_stock 4 = .ok (.iload_n 1, 1) := dqr0 dqK_27 dqw_cX6_stock_0 4 rfl rfl
theorem dX6_stock_5 : decode cX6_stock 5 = .ok (.invokevirtual 159, 3) := dqr2 dqK_182 dqw_cX6_stock_0 5 rfl rfl rfl rfl rfl
theorem dX6_stock_8 : decode cX6_stock 8 = .ok (.ifCond .eq 14, 3) := dqrs2 dqK_153 dqw_cX6_stock_0 8 rfl rfl rfl rfl (by decide)
theorem dX6_stock_11 : decode cX6_stock 11 = .ok (.aload_n 0, 1) := dqr0 dqK_42 dqw_cX6_stock_0 11 rfl rfl
theorem dX6_stock_12 : decode cX6_stock 12 = .ok (.getfield 26, 3) := dqr2 dqK_180 dqw_cX6_stock_0 12 rfl rfl rfl rfl rfl
theorem dX6_stock_15 : decode cX6_stock 15 = .ok (.iload_n 3, 1) := dqr0 dqK_29 dqw_cX6_stock_0 15 rfl rfl
theorem dX6_stock_16 : decode cX6_stock 16 = .ok (.invokevirtual 195, 3) := dqr2 dqK_182 dqw_cX6_stock_0 16 rfl rfl rfl rfl rfl
theorem dX6_stock_19 : decode cX6_stock 19 = .ok (.ifCond .ne 5, 3) := dqrs2 dqK_154 dqw_cX6_stock_0 19 rfl rfl rfl rfl (by decide)
theorem dX6_stock_22 : decode cX6_stock 22 = .ok (.iconst (-1), 1) := dqr0 dqK_2 dqw_cX6_stock_0 22 rfl rfl
theorem dX6_stock_23 : decode cX6_stock 23 = .ok (.ireturn, 1) := dqr0 dqK_172 dqw_cX6_stock_0 23 rfl rfl
theorem dqw_cX6_stock_24 : dqLF cX6_stock 24 [28, 184, 0, 162, 154, 0, 6, 16, 254, 172, 42, 180, 0, 26, 27, 28, 29, 182, 0, 165, 184, 0, 198, 172] := by decide +kernel
theorem dX6_stock_24 : decode cX6_stock 24 = .ok (.iload_n 2, 1) := dqr0 dqK_28 dqw_cX6_stock_24 0 rfl rfl
theorem dX6_stock_25 : decode cX6_stock 25 = .ok (.invokestatic 162, 3) := dqr2 dqK_184 dqw_cX6_stock_24 1 rfl rfl rfl rfl rfl
theorem dX6_stock_28 : decode cX6_stock 28 = .ok (.ifCond .ne 6, 3) := dqrs2 dqK_154 dqw_cX6_stock_24 4 rfl rfl rfl rfl (by decide)
theorem dX6_stock_31 : decode cX6_stock 31 = .ok (.bipush (-2), 2) := dqrs1 dqK_16 dqw_cX6_stock_24 7 rfl rfl rfl (by decide)
theorem dX6_stock_33 : decode cX6_stock 33 = .ok (.ireturn, 1) := dqr0 dqK_172 dqw_cX6_stock_24 9 rfl rfl
theorem dX6_stock_34 : decode cX6_stock 34 = .ok (.aload_n 0, 1) := dqr0 dqK_42 dqw_cX6_stock_24 10 rfl rfl
theorem dX6_stock_35 : decode cX6_stock 35 = .ok (.getfield 26, 3) := dqr2 dqK_180 dqw_cX6_stock_24 11 rfl rfl rfl rfl rfl
theorem dX6_stock_38 : decode cX6_stock 38 = .ok (.iload_n 1, 1) := dqr0 dqK_27 dqw_cX6_stock_24 14 rfl rfl
theorem dX6_stock_39 : decode cX6_stock 39 = .ok (.iload_n 2, 1) := dqr0 dqK_28 dqw_cX6_stock_24 15 rfl rfl
theorem dX6_stock_40 : decode cX6_stock 40 = .ok (.iload_n 3, 1) := dqr0 dqK_29 dqw_cX6_stock_24 16 rfl rfl
theorem dX6_stock_41 : decode cX6_stock 41 = .ok (.invokevirtual 165, 3) := dqr2 dqK_182 dqw_cX6_stock_24 17 rfl rfl rfl rfl rfl
theorem dX6_stock_44 : decode cX6_stock 44 = .ok (.invokestatic 198, 3) := dqr2 dqK_184 dqw_cX6_stock_24 20 rfl rfl rfl rfl rfl
theorem dX6_stock_47 : decode cX6_stock 47 = .ok (.ireturn, 1) := dqr0 dqK_172 dqw_cX6_stock_24 23 rfl rfl
theorem dqw_cX6_unlike_0 : dqLF cX6_unlike 0 [42, 180, 0, 26, 27, 182, 0, 159, 153, 0, 26, 42, 180, 0, 26, 28, 182, 0, 159, 153, 0, 15, 42] := by decide +kernel
theorem dX6_unlike_0 : decode cX6_unlike 0 = .ok (.aload_n 0, 1) := dqr0 dqK_42 dqw_cX6_unlike_0 0 rfl rfl
theorem dX6_unlike_1 : decode cX6_unlike 1 = .ok (.getfield 26, 3) := dqr2 dqK_180 dqw_cX6_unlike_0 1 rfl rfl rfl rfl rfl
theorem dX6_unlike_4 : decode cX6_unlike 4 = .ok (.iload_n 1, 1) := dqr0 dqK_27 dqw_cX6_unlike_0 4 rfl rfl
theorem dX6_unlike_5 : decode cX6_unlike 5 = .ok (.invokevirtual 159, 3) := dqr2 dqK_182 dqw_cX6_unlike_0 5 rfl rfl rfl rfl rfl
theorem dX6_unlike_8 : decode cX6_unlike 8 = .ok (.ifCond .eq 26, 3) := dqrs2 dqK_153 dqw_cX6_unlike_0 8 rfl rfl rfl rfl (by decide)
theorem dX6_unlike_11 : decode cX6_unlike 11 = .ok (.aload_n 0, 1) := dqr0 dqK_42 dqw_cX6_unlike_0 11 rfl rfl
theorem dX6_unlike_12 : decode cX6_unlike 12 = .ok (.getfield 26, 3) := dqr2 dqK_180 dqw_cX6_unlike_0 12 rfl rfl rfl rfl rfl
theorem dX6_unlike_15 : decode cX6_unlike 15 = .ok (.iload_n 2, 1) := dqr0 dqK_28 dqw_cX6_unlike_0 15 rfl rfl
theorem dX6_unlike_16 : decode cX6_unlike 16 = .ok (.invokevirtual 159, 3) := dqr2 dqK_182 dqw_cX6_unlike_0 16 rfl rfl rfl rfl rfl
theorem dX6_unlike_19 : decode cX6_unlike 19 = .ok (.ifCond .eq 15, 3) := dqrs2 dqK_153 dqw_cX6_unlike_0 19 rfl rfl rfl rfl (by decide)
theorem dX6_unlike_22 : decode cX6_unlike 22 = .ok (.aload_n 0, 1) := dqr0 dqK_42 dqw_cX6_unlike_0 22 rfl rfl
theorem dqw_cX6_unlike_23 : dqLF cX6_unlike 23 [180, 0, 26, 21, 4, 182, 0, 195, 154, 0, 5, 2, 172, 29, 184, 0, 162, 154, 0, 6, 16, 254, 172, 42] := by decide +kernel
theorem dX6_unlike_23 : decode cX6_unlike 23 = .ok (.getfield 26, 3) := dqr2 dqK_180 dqw_cX6_unlike_23 0 rfl rfl rfl rfl rfl
theorem dX6_unlike_26 : decode cX6_unlike 26 = .ok (.iload 4, 2) := dqr1 dqK_21 dqw_cX6_unlike_23 3 rfl rfl rfl
theorem dX6_unlike_28 : decode cX6_unlike 28 = .ok (.invokevirtual 195, 3) := dqr2 dqK_182 dqw_cX6_unlike_23 5 rfl rfl rfl rfl rfl
theorem dX6_unlike_31 : decode cX6_unlike 31 = .ok (.ifCond .ne 5, 3) := dqrs2 dqK_154 dqw_cX6_unlike_23 8 rfl rfl rfl rfl (by decide)
theorem dX6_unlike_34 : decode cX6_unlike 34 = .ok (.iconst (-1), 1) := dqr0 dqK_2 dqw_cX6_unlike_23 11 rfl rfl
theorem dX6_unlike_35 : decode cX6_unlike 35 = .ok (.ireturn, 1) := dqr0 dqK_172 dqw_cX6_unlike_23 12 rfl rfl
theorem dX6_unlike_36 : decode cX6_unlike 36 = .ok (.iload_n 3, 1) := dqr0 dqK_29 dqw_cX6_unlike_23 13 rfl rfl
theorem dX6_unlike_37 : decode cX6_unlike 37 = .ok (.invokestatic 162, 3) := dqr2 dqK_184 dqw_cX6_unlike_23 14 rfl rfl rfl rfl rfl
theorem dX6_unlike_40 : decode cX6_unlike 40 = .ok (.ifCond .ne 6, 3) := dqrs2 dqK_154 dqw_cX6_unlike_23 17 rfl rfl rfl rfl (by decide)
theorem dX6_unlike_43 : decode cX6_unlike 43 = .ok (.bipush (-2), 2) := dqrs1 dqK_16 dqw_cX6_unlike_23 20 rfl rfl rfl (by decide)
theorem dX6_unlike_45 : decode cX6_unlike 45 = .ok (.ireturn, 1) := dqr0 dqK_172 dqw_cX6_unlike_23 22 rfl rfl
theorem dX6_unlike_46 : decode cX6_unlike 46 = .ok (.aload_n 0, 1) := dqr0 dqK_42 dqw_cX6_unlike_23 23 rfl rfl
theorem dqw_cX6_unlike_47 : dqLF cX6_unlike 47 [180, 0, 26, 29, 21, 4, 182, 0, 204, 42, 180, 0, 26, 27, 28, 182, 0, 208, 172] := by decide +kernel
theorem dX6_unlike_47 : decode cX6_unlike 47 = .ok (.getfield 26, 3) := dqr2 dqK_180 dqw_cX6_unlike_47 0 rfl rfl rfl rfl rfl
theorem dX6_unlike_50 : decode cX6_unlike 50 = .ok (.iload_n 3, 1) := dqr0 dqK_29 dqw_cX6_unlike_47 3 rfl rfl
theorem dX6_unlike_51 : decode cX6_unlike 51 = .ok (.iload 4, 2) := dqr1 dqK_21 dqw_cX6_unlike_47 4 rfl rfl rfl
theorem dX6_unlike_53 : decode cX6_unlike 53 = .ok (.invokevirtual 204, 3) := dqr2 dqK_182 dqw_cX6_unlike_47 6 rfl rfl rfl rfl rfl
theorem dX6_unlike_56 : decode cX6_unlike 56 = .ok (.aload_n 0, 1) := dqr0 dqK_42 dqw_cX6_unlike_47 9 rfl rfl
theorem dX6_unlike_57 : decode cX6_unlike 57 = .ok (.getfield 26, 3) := dqr2 dqK_180 dqw_cX6_unlike_47 10 rfl rfl rfl rfl rfl
theorem dX6_unlike_60 : decode cX6_unlike 60 = .ok (.iload_n 1, 1) := dqr0 dqK_27 dqw_cX6_unlike_47 13 rfl rfl
theorem dX6_unlike_61 : decode cX6_unlike 61 = .ok (.iload_n 2, 1) := dqr0 dqK_28 dqw_cX6_unlike_47 14 rfl rfl
theorem dX6_unlike_62 : decode cX6_unlike 62 = .ok (.invokevirtual 208, 3) := dqr2 dqK_182 dqw_cX6_unlike_47 15 rfl rfl rfl rfl rfl
theorem dX6_unlike_65 : decode cX6_unlike 65 = .ok (.ireturn, 1) := dqr0 dqK_172 dqw_cX6_unlike_47 18 rfl rfl
theorem dqw_cX6_master_0 : dqLF cX6_master 0 [42, 180, 0, 26, 27, 182, 0, 159, 153, 0, 14, 42, 180, 0, 26, 29, 182, 0, 195, 154, 0, 5, 2, 172] := by decide +kernel
theorem dX6_master_0 : decode cX6_master 0 = .ok (.aload_n 0, 1) := dqr0 dqK_42 dqw_cX6_master_0 0 rfl rfl
theorem dX6_master_1 : decode cX6_master 1 = .ok (.getfield 26, 3) := dqr2 dqK_180 dqw_cX6_master_0 1 rfl rfl rfl rfl rfl
theorem dX6_master_4 : decode cX6_master 4 = .ok (.iload_n 1, 1) := dqr0 dqK_27 dqw_cX6_master_0 4 rfl rfl
theorem dX6_master_5 : decode cX6_master 5 = .ok (.invokevirtual 159, 3) := dqr2 dqK_182 dqw_cX6_master_0 5 rfl rfl rfl rfl rfl
theorem dX6_master_8 : decode cX6_master 8 = .ok (.ifCond .eq 14, 3) := dqrs2 dqK_153 dqw_cX6_master_0 8 rfl rfl rfl rfl (by decide)
theorem dX6_master_11 : decode cX6_master 11 = .ok (.aload_n 0, 1) := dqr0 dqK_42 dqw_cX6_master_0 11 rfl rfl
theorem dX6_master_12 : decode cX6_master 12 = .ok (.getfield 26, 3) := dqr2 dqK_180 dqw_cX6_master_0 12 rfl rfl rfl rfl rfl
theorem dX6_master_15 : decode cX6_master 15 = .ok (.iload_n 3, 1) := dqr0 dqK_29 dqw_cX6_master_0 15 rfl rfl
theorem dX6_master_16 : decode cX6_master 16 = .ok (.invokevirtual 195, 3) := dqr2 dqK_182 dqw_cX6_master_0 16 rfl rfl rfl rfl rfl
theorem dX6_master_19 : decode cX6_master 19 = .ok (.ifCond .ne 5, 3) := dqrs2 dqK_154 dqw_cX6_master_0 19 rfl rfl rfl rfl (by decide)
theorem dX6_master_22 : decode cX6_master 22 = .ok (.iconst (-1), 1) := dqr0 dqK_2 dqw_cX6_master_0 22 rfl rfl
theorem dX6_master_23 : decode cX6_master 23 = .ok (.ireturn, 1) := dqr0 dqK_172 dqw_cX6_master_0 23 rfl rfl
theorem dqw_cX6_master_24 : dqLF cX6_master 24 [28, 184, 0, 162, 154, 0, 6, 16, 254, 172, 42, 180, 0, 26, 28, 29, 182, 0, 204, 42, 180, 0, 26, 27] := by decide +kernel
theorem dX6_master_24 : decode cX6_master 24 = .ok (.iload_n 2, 1) := dqr0 dqK_28 dqw_cX6_master_24 0 rfl rfl
theorem dX6_master_25 : decode cX6_master 25 = .ok (.invokestatic 162, 3) := dqr2 dqK_184 dqw_cX6_master_24 1 rfl rfl rfl rfl rfl
theorem dX6_master_28 : decode cX6_master 28 = .ok (.ifCond .ne 6, 3) := dqrs2 dqK_154 dqw_cX6_master_24 4 rfl rfl rfl rfl (by decide)
theorem dX6_master_31 : decode cX6_master 31 = .ok (.bipush (-2), 2) := dqrs1 dqK_16 dqw_cX6_master_24 7 rfl rfl rfl (by decide)
theorem dX6_master_33 : decode cX6_master 33 = .ok (.ireturn, 1) := dqr0 dqK_172 dqw_cX6_master_24 9 rfl rfl
theorem dX6_master_34 : decode cX6_master 34 = .ok (.aload_n 0, 1) := dqr0 dqK_42 dqw_cX6_master_24 10 rfl rfl
theorem dX6_master_35 : decode cX6_master 35 = .ok (.getfield 26, 3) := dqr2 dqK_180 dqw_cX6_master_24 11 rfl rfl rfl rfl rfl
theorem dX6_master_38 : decode cX6_master 38 = .ok (.iload_n 2, 1) := dqr0 dqK_28 dqw_cX6_master_24 14 rfl rfl
theorem dX6_master_39 : decode cX6_master 39 = .ok (.iload_n 3, 1) := dqr0 dqK_29 dqw_cX6_master_24 15 rfl rfl
theorem dX6_master_40 : decode cX6_master 40 = .ok (.invokevirtual 204, 3) := dqr2 dqK_182 dqw_cX6_master_24 16 rfl rfl rfl rfl rfl
theorem dX6_master_43 : decode cX6_master 43 = .ok (.aload_n 0, 1) := dqr0 dqK_42 dqw_cX6_master_24 19 rfl rfl
theorem dX6_master_44 : decode cX6_master 44 = .ok (.getfield 26, 3) := dqr2 dqK_180 dqw_cX6_master_24 20 rfl rfl rfl rfl rfl
theorem dX6_master_47 : decode cX6_master 47 = .ok (.iload_n 1, 1) := dqr0 dqK_27 dqw_cX6_master_24 23 rfl rfl
theorem dqw_cX6_master_48 : dqLF cX6_master 48 [182, 0, 211, 172] := by decide +kernel
theorem dX6_master_48 : decode cX6_master 48 = .ok (.invokevirtual 211, 3) := dqr2 dqK_182 dqw_cX6_master_48 0 rfl rfl rfl rfl rfl
theorem dX6_master_51 : decode cX6_master 51 = .ok (.ireturn, 1) := dqr0 dqK_172 dqw_cX6_master_48 3 rfl rfl
theorem dqw_cX6_lineage_0 : dqLF cX6_lineage 0 [42, 180, 0, 26, 28, 182, 0, 195, 154, 0, 5, 2, 172, 27, 184, 0, 162, 154, 0, 6, 16, 254, 172, 42] := by decide +kernel
theorem dX6_lineage_0 : decode cX6_lineage 0 = .ok (.aload_n 0, 1) := dqr0 dqK_42 dqw_cX6_lineage_0 0 rfl rfl
theorem dX6_lineage_1 : decode cX6_lineage 1 = .ok (.getfield 26, 3) := dqr2 dqK_180 dqw_cX6_lineage_0 1 rfl rfl rfl rfl rfl
theorem dX6_lineage_4 : decode cX6_lineage 4 = .ok (.iload_n 2, 1) := dqr0 dqK_28 dqw_cX6_lineage_0 4 rfl rfl
theorem dX6_lineage_5 : decode cX6_lineage 5 = .ok (.invokevirtual 195, 3) := dqr2 dqK_182 dqw_cX6_lineage_0 5 rfl rfl rfl rfl rfl
theorem dX6_lineage_8 : decode cX6_lineage 8 = .ok (.ifCond .ne 5, 3) := dqrs2 dqK_154 dqw_cX6_lineage_0 8 rfl rfl rfl rfl (by decide)
theorem dX6_lineage_11 : decode cX6_lineage 11 = .ok (.iconst (-1), 1) := dqr0 dqK_2 dqw_cX6_lineage_0 11 rfl rfl
theorem dX6_lineage_12 : decode cX6_lineage 12 = .ok (.ireturn, 1) := dqr0 dqK_172 dqw_cX6_lineage_0 12 rfl rfl
theorem dX6_lineage_13 : decode cX6_lineage 13 = .ok (.iload_n 1, 1) := dqr0 dqK_27 dqw_cX6_lineage_0 13 rfl rfl
theorem dX6_lineage_14 : decode cX6_lineage 14 = .ok (.invokestatic 162, 3) := dqr2 dqK_184 dqw_cX6_lineage_0 14 rfl rfl rfl rfl rfl
theorem dX6_lineage_17 : decode cX6_lineage 17 = .ok (.ifCond .ne 6, 3) := dqrs2 dqK_154 dqw_cX6_lineage_0 17 rfl rfl rfl rfl (by decide)
theorem dX6_lineage_20 : decode cX6_lineage 20 = .ok (.bipush (-2), 2) := dqrs1 dqK_16 dqw_cX6_lineage_0 20 rfl rfl rfl (by decide)
theorem dX6_lineage_22 : decode cX6_lineage 22 = .ok (.ireturn, 1) := dqr0 dqK_172 dqw_cX6_lineage_0 22 rfl rfl
theorem dX6_lineage_23 : decode cX6_lineage 23 = .ok (.aload_n 0, 1) := dqr0 dqK_42 dqw_cX6_lineage_0 23 rfl rfl
theorem dqw_cX6_lineage_24 : dqLF cX6_lineage 24 [180, 0, 26, 27, 28, 182, 0, 204, 3, 62, 3, 54, 4, 21, 4, 42, 180, 0, 26, 180, 0, 179] := by decide +kernel
theorem dX6_lineage_24 : decode cX6_lineage 24 = .ok (.getfield 26, 3) := dqr2 dqK_180 dqw_cX6_lineage_24 0 rfl rfl rfl rfl rfl
theorem dX6_lineage_27 : decode cX6_lineage 27 = .ok (.iload_n 1, 1) := dqr0 dqK_27 dqw_cX6_lineage_24 3 rfl rfl
theorem dX6_lineage_28 : decode cX6_lineage 28 = .ok (.iload_n 2, 1) := dqr0 dqK_28 dqw_cX6_lineage_24 4 rfl rfl
theorem dX6_lineage_29 : decode cX6_lineage 29 = .ok (.invokevirtual 204, 3) := dqr2 dqK_182 dqw_cX6_lineage_24 5 rfl rfl rfl rfl rfl
theorem dX6_lineage_32 : decode cX6_lineage 32 = .ok (.iconst 0, 1) := dqr0 dqK_3 dqw_cX6_lineage_24 8 rfl rfl
theorem dX6_lineage_33 : decode cX6_lineage 33 = .ok (.istore_n 3, 1) := dqr0 dqK_62 dqw_cX6_lineage_24 9 rfl rfl
theorem dX6_lineage_34 : decode cX6_lineage 34 = .ok (.iconst 0, 1) := dqr0 dqK_3 dqw_cX6_lineage_24 10 rfl rfl
theorem dX6_lineage_35 : decode cX6_lineage 35 = .ok (.istore 4, 2) := dqr1 dqK_54 dqw_cX6_lineage_24 11 rfl rfl rfl
theorem dX6_lineage_37 : decode cX6_lineage 37 = .ok (.iload 4, 2) := dqr1 dqK_21 dqw_cX6_lineage_24 13 rfl rfl rfl
theorem dX6_lineage_39 : decode cX6_lineage 39 = .ok (.aload_n 0, 1) := dqr0 dqK_42 dqw_cX6_lineage_24 15 rfl rfl
theorem dX6_lineage_40 : decode cX6_lineage 40 = .ok (.getfield 26, 3) := dqr2 dqK_180 dqw_cX6_lineage_24 16 rfl rfl rfl rfl rfl
theorem dX6_lineage_43 : decode cX6_lineage 43 = .ok (.getfield 179, 3) := dqr2 dqK_180 dqw_cX6_lineage_24 19 rfl rfl rfl rfl rfl
theorem dqw_cX6_lineage_46 : dqLF cX6_lineage 46 [162, 0, 41, 42, 180, 0, 26, 21, 4, 182, 0, 211, 54, 5, 21, 5, 16, 251, 159, 0, 17, 29, 42] := by decide +kernel
theorem dX6_lineage_46 : decode cX6_lineage 46 = .ok (.if_icmp .ge 41, 3) := dqrs2 dqK_162 dqw_cX6_lineage_46 0 rfl rfl rfl rfl (by decide)
theorem dX6_lineage_49 : decode cX6_lineage 49 = .ok (.aload_n 0, 1) := dqr0 dqK_42 dqw_cX6_lineage_46 3 rfl rfl
theorem dX6_lineage_50 : decode cX6_lineage 50 = .ok (.getfield 26, 3) := dqr2 dqK_180 dqw_cX6_lineage_46 4 rfl rfl rfl rfl rfl
theorem dX6_lineage_53 : decode cX6_lineage 53 = .ok (.iload 4, 2) := dqr1 dqK_21 dqw_cX6_lineage_46 7 rfl rfl rfl
theorem dX6_lineage_55 : decode cX6_lineage 55 = .ok (.invokevirtual 211, 3) := dqr2 dqK_182 dqw_cX6_lineage_46 9 rfl rfl rfl rfl rfl
theorem dX6_lineage_58 : decode cX6_lineage 58 = .ok (.istore 5, 2) := dqr1 dqK_54 dqw_cX6_lineage_46 12 rfl rfl rfl
theorem dX6_lineage_60 : decode cX6_lineage 60 = .ok (.iload 5, 2) := dqr1 dqK_21 dqw_cX6_lineage_46 14 rfl rfl rfl
theorem dX6_lineage_62 : decode cX6_lineage 62 = .ok (.bipush (-5), 2) := dqrs1 dqK_16 dqw_cX6_lineage_46 16 rfl rfl rfl (by decide)
theorem dX6_lineage_64 : decode cX6_lineage 64 = .ok (.if_icmp .eq 17, 3) := dqrs2 dqK_159 dqw_cX6_lineage_46 18 rfl rfl rfl rfl (by decide)
theorem dX6_lineage_67 : decode cX6_lineage 67 = .ok (.iload_n 3, 1) := dqr0 dqK_29 dqw_cX6_lineage_46 21 rfl rfl
theorem dX6_lineage_68 : decode cX6_lineage 68 = .ok (.aload_n 0, 1) := dqr0 dqK_42 dqw_cX6_lineage_46 22 rfl rfl
theorem dqw_cX6_lineage_69 : dqLF cX6_lineage 69 [180, 0, 26, 21, 4, 21, 5, 182, 0, 208, 96, 62, 132, 4, 1, 167, 255, 209, 29, 172] := by decide +kernel
theorem dX6_lineage_69 : decode cX6_lineage 69 = .ok (.getfield 26, 3) := dqr2 dqK_180 dqw_cX6_lineage_69 0 rfl rfl rfl rfl rfl
theorem dX6_lineage_72 : decode cX6_lineage 72 = .ok (.iload 4, 2) := dqr1 dqK_21 dqw_cX6_lineage_69 3 rfl rfl rfl
theorem dX6_lineage_74 : decode cX6_lineage 74 = .ok (.iload 5, 2) := dqr1 dqK_21 dqw_cX6_lineage_69 5 rfl rfl rfl
theorem dX6_lineage_76 : decode cX6_lineage 76 = .ok (.invokevirtual 208, 3) := dqr2 dqK_182 dqw_cX6_lineage_69 7 rfl rfl rfl rfl rfl
theorem dX6_lineage_79 : decode cX6_lineage 79 = .ok (.iadd, 1) := dqr0 dqK_96 dqw_cX6_lineage_69 10 rfl rfl
theorem dX6_lineage_80 : decode cX6_lineage 80 = .ok (.istore_n 3, 1) := dqr0 dqK_62 dqw_cX6_lineage_69 11 rfl rfl
theorem dX6_lineage_81 : decode cX6_lineage 81 = .ok (.iinc 4 1, 3) := dqri dqK_132 dqw_cX6_lineage_69 12 rfl rfl rfl rfl (by decide)
theorem dX6_lineage_84 : decode cX6_lineage 84 = .ok (.goto (-47), 3) := dqrs2 dqK_167 dqw_cX6_lineage_69 15 rfl rfl rfl rfl (by decide)
theorem dX6_lineage_87 : decode cX6_lineage 87 = .ok (.iload_n 3, 1) := dqr0 dqK_29 dqw_cX6_lineage_69 18 rfl rfl
theorem dX6_lineage_88 : decode cX6_lineage 88 = .ok (.ireturn, 1) := dqr0 dqK_172 dqw_cX6_lineage_69 19 rfl rfl
theorem dqw_cX6_loan_0 : dqLF cX6_loan 0 [42, 180, 0, 26, 27, 182, 0, 159, 153, 0, 26, 42, 180, 0, 26, 28, 182, 0, 159, 153, 0, 15, 42] := by decide +kernel
theorem dX6_loan_0 : decode cX6_loan 0 = .ok (.aload_n 0, 1) := dqr0 dqK_42 dqw_cX6_loan_0 0 rfl rfl
theorem dX6_loan_1 : decode cX6_loan 1 = .ok (.getfield 26, 3) := dqr2 dqK_180 dqw_cX6_loan_0 1 rfl rfl rfl rfl rfl
theorem dX6_loan_4 : decode cX6_loan 4 = .ok (.iload_n 1, 1) := dqr0 dqK_27 dqw_cX6_loan_0 4 rfl rfl
theorem dX6_loan_5 : decode cX6_loan 5 = .ok (.invokevirtual 159, 3) := dqr2 dqK_182 dqw_cX6_loan_0 5 rfl rfl rfl rfl rfl
theorem dX6_loan_8 : decode cX6_loan 8 = .ok (.ifCond .eq 26, 3) := dqrs2 dqK_153 dqw_cX6_loan_0 8 rfl rfl rfl rfl (by decide)
theorem dX6_loan_11 : decode cX6_loan 11 = .ok (.aload_n 0, 1) := dqr0 dqK_42 dqw_cX6_loan_0 11 rfl rfl
theorem dX6_loan_12 : decode cX6_loan 12 = .ok (.getfield 26, 3) := dqr2 dqK_180 dqw_cX6_loan_0 12 rfl rfl rfl rfl rfl
theorem dX6_loan_15 : decode cX6_loan 15 = .ok (.iload_n 2, 1) := dqr0 dqK_28 dqw_cX6_loan_0 15 rfl rfl
theorem dX6_loan_16 : decode cX6_loan 16 = .ok (.invokevirtual 159, 3) := dqr2 dqK_182 dqw_cX6_loan_0 16 rfl rfl rfl rfl rfl
theorem dX6_loan_19 : decode cX6_loan 19 = .ok (.ifCond .eq 15, 3) := dqrs2 dqK_153 dqw_cX6_loan_0 19 rfl rfl rfl rfl (by decide)
theorem dX6_loan_22 : decode cX6_loan 22 = .ok (.aload_n 0, 1) := dqr0 dqK_42 dqw_cX6_loan_0 22 rfl rfl
theorem dqw_cX6_loan_23 : dqLF cX6_loan 23 [180, 0, 26, 21, 4, 182, 0, 195, 154, 0, 5, 2, 172, 29, 184, 0, 162, 153, 0, 8, 27, 28] := by decide +kernel
theorem dX6_loan_23 : decode cX6_loan 23 = .ok (.getfield 26, 3) := dqr2 dqK_180 dqw_cX6_loan_23 0 rfl rfl rfl rfl rfl
theorem dX6_loan_26 : decode cX6_loan 26 = .ok (.iload 4, 2) := dqr1 dqK_21 dqw_cX6_loan_23 3 rfl rfl rfl
theorem dX6_loan_28 : decode cX6_loan 28 = .ok (.invokevirtual 195, 3) := dqr2 dqK_182 dqw_cX6_loan_23 5 rfl rfl rfl rfl rfl
theorem dX6_loan_31 : decode cX6_loan 31 = .ok (.ifCond .ne 5, 3) := dqrs2 dqK_154 dqw_cX6_loan_23 8 rfl rfl rfl rfl (by decide)
theorem dX6_loan_34 : decode cX6_loan 34 = .ok (.iconst (-1), 1) := dqr0 dqK_2 dqw_cX6_loan_23 11 rfl rfl
theorem dX6_loan_35 : decode cX6_loan 35 = .ok (.ireturn, 1) := dqr0 dqK_172 dqw_cX6_loan_23 12 rfl rfl
theorem dX6_loan_36 : decode cX6_loan 36 = .ok (.iload_n 3, 1) := dqr0 dqK_29 dqw_cX6_loan_23 13 rfl rfl
theorem dX6_loan_37 : decode cX6_loan 37 = .ok (.invokestatic 162, 3) := dqr2 dqK_184 dqw_cX6_loan_23 14 rfl rfl rfl rfl rfl
theorem dX6_loan_40 : decode cX6_loan 40 = .ok (.ifCond .eq 8, 3) := dqrs2 dqK_153 dqw_cX6_loan_23 17 rfl rfl rfl rfl (by decide)
theorem dX6_loan_43 : decode cX6_loan 43 = .ok (.iload_n 1, 1) := dqr0 dqK_27 dqw_cX6_loan_23 20 rfl rfl
theorem dX6_loan_44 : decode cX6_loan 44 = .ok (.iload_n 2, 1) := dqr0 dqK_28 dqw_cX6_loan_23 21 rfl rfl
theorem dqw_cX6_loan_45 : dqLF cX6_loan 45 [160, 0, 6, 16, 254, 172, 42, 180, 0, 26, 29, 21, 4, 182, 0, 204, 42, 180, 0, 26, 180, 0, 214, 27] := by decide +kernel
theorem dX6_loan_45 : decode cX6_loan 45 = .ok (.if_icmp .ne 6, 3) := dqrs2 dqK_160 dqw_cX6_loan_45 0 rfl rfl rfl rfl (by decide)
theorem dX6_loan_48 : decode cX6_loan 48 = .ok (.bipush (-2), 2) := dqrs1 dqK_16 dqw_cX6_loan_45 3 rfl rfl rfl (by decide)
theorem dX6_loan_50 : decode cX6_loan 50 = .ok (.ireturn, 1) := dqr0 dqK_172 dqw_cX6_loan_45 5 rfl rfl
theorem dX6_loan_51 : decode cX6_loan 51 = .ok (.aload_n 0, 1) := dqr0 dqK_42 dqw_cX6_loan_45 6 rfl rfl
theorem dX6_loan_52 : decode cX6_loan 52 = .ok (.getfield 26, 3) := dqr2 dqK_180 dqw_cX6_loan_45 7 rfl rfl rfl rfl rfl
theorem dX6_loan_55 : decode cX6_loan 55 = .ok (.iload_n 3, 1) := dqr0 dqK_29 dqw_cX6_loan_45 10 rfl rfl
theorem dX6_loan_56 : decode cX6_loan 56 = .ok (.iload 4, 2) := dqr1 dqK_21 dqw_cX6_loan_45 11 rfl rfl rfl
theorem dX6_loan_58 : decode cX6_loan 58 = .ok (.invokevirtual 204, 3) := dqr2 dqK_182 dqw_cX6_loan_45 13 rfl rfl rfl rfl rfl
theorem dX6_loan_61 : decode cX6_loan 61 = .ok (.aload_n 0, 1) := dqr0 dqK_42 dqw_cX6_loan_45 16 rfl rfl
theorem dX6_loan_62 : decode cX6_loan 62 = .ok (.getfield 26, 3) := dqr2 dqK_180 dqw_cX6_loan_45 17 rfl rfl rfl rfl rfl
theorem dX6_loan_65 : decode cX6_loan 65 = .ok (.getfield 214, 3) := dqr2 dqK_180 dqw_cX6_loan_45 20 rfl rfl rfl rfl rfl
theorem dX6_loan_68 : decode cX6_loan 68 = .ok (.iload_n 1, 1) := dqr0 dqK_27 dqw_cX6_loan_45 23 rfl rfl
theorem dqw_cX6_loan_69 : dqLF cX6_loan 69 [47, 42, 180, 0, 26, 180, 0, 214, 28, 47, 127, 42, 180, 0, 10, 180, 0, 111, 127, 55, 5, 22, 5, 42] := by decide +kernel
theorem dX6_loan_69 : decode cX6_loan 69 = .ok (.laload, 1) := dqr0 dqK_47 dqw_cX6_loan_69 0 rfl rfl
theorem dX6_loan_70 : decode cX6_loan 70 = .ok (.aload_n 0, 1) := dqr0 dqK_42 dqw_cX6_loan_69 1 rfl rfl
theorem dX6_loan_71 : decode cX6_loan 71 = .ok (.getfield 26, 3) := dqr2 dqK_180 dqw_cX6_loan_69 2 rfl rfl rfl rfl rfl
theorem dX6_loan_74 : decode cX6_loan 74 = .ok (.getfield 214, 3) := dqr2 dqK_180 dqw_cX6_loan_69 5 rfl rfl rfl rfl rfl
theorem dX6_loan_77 : decode cX6_loan 77 = .ok (.iload_n 2, 1) := dqr0 dqK_28 dqw_cX6_loan_69 8 rfl rfl
theorem dX6_loan_78 : decode cX6_loan 78 = .ok (.laload, 1) := dqr0 dqK_47 dqw_cX6_loan_69 9 rfl rfl
theorem dX6_loan_79 : decode cX6_loan 79 = .ok (.land, 1) := dqr0 dqK_127 dqw_cX6_loan_69 10 rfl rfl
theorem dX6_loan_80 : decode cX6_loan 80 = .ok (.aload_n 0, 1) := dqr0 dqK_42 dqw_cX6_loan_69 11 rfl rfl
theorem dX6_loan_81 : decode cX6_loan 81 = .ok (.getfield 10, 3) := dqr2 dqK_180 dqw_cX6_loan_69 12 rfl rfl rfl rfl rfl
theorem dX6_loan_84 : decode cX6_loan 84 = .ok (.getfield 111, 3) := dqr2 dqK_180 dqw_cX6_loan_69 15 rfl rfl rfl rfl rfl
theorem dX6_loan_87 : decode cX6_loan 87 = .ok (.land, 1) := dqr0 dqK_127 dqw_cX6_loan_69 18 rfl rfl
theorem dX6_loan_88 : decode cX6_loan 88 = .ok (.lstore 5, 2) := dqr1 dqK_55 dqw_cX6_loan_69 19 rfl rfl rfl
theorem dX6_loan_90 : decode cX6_loan 90 = .ok (.lload 5, 2) := dqr1 dqK_22 dqw_cX6_loan_69 21 rfl rfl rfl
theorem dX6_loan_92 : decode cX6_loan 92 = .ok (.aload_n 0, 1) := dqr0 dqK_42 dqw_cX6_loan_69 23 rfl rfl
theorem dqw_cX6_loan_93 : dqLF cX6_loan 93 [180, 0, 26, 27, 182, 0, 218, 20, 0, 222, 131, 127, 42, 180, 0, 26, 28, 182, 0, 218, 20, 0, 222, 131] := by decide +kernel
theorem dX6_loan_93 : decode cX6_loan 93 = .ok (.getfield 26, 3) := dqr2 dqK_180 dqw_cX6_loan_93 0 rfl rfl rfl rfl rfl
theorem dX6_loan_96 : decode cX6_loan 96 = .ok (.iload_n 1, 1) := dqr0 dqK_27 dqw_cX6_loan_93 3 rfl rfl
theorem dX6_loan_97 : decode cX6_loan 97 = .ok (.invokevirtual 218, 3) := dqr2 dqK_182 dqw_cX6_loan_93 4 rfl rfl rfl rfl rfl
theorem dX6_loan_100 : decode cX6_loan 100 = .ok (.ldc2_w 222, 3) := dqr2 dqK_20 dqw_cX6_loan_93 7 rfl rfl rfl rfl rfl
theorem dX6_loan_103 : decode cX6_loan 103 = .ok (.lxor, 1) := dqr0 dqK_131 dqw_cX6_loan_93 10 rfl rfl
theorem dX6_loan_104 : decode cX6_loan 104 = .ok (.land, 1) := dqr0 dqK_127 dqw_cX6_loan_93 11 rfl rfl
theorem dX6_loan_105 : decode cX6_loan 105 = .ok (.aload_n 0, 1) := dqr0 dqK_42 dqw_cX6_loan_93 12 rfl rfl
theorem dX6_loan_106 : decode cX6_loan 106 = .ok (.getfield 26, 3) := dqr2 dqK_180 dqw_cX6_loan_93 13 rfl rfl rfl rfl rfl
theorem dX6_loan_109 : decode cX6_loan 109 = .ok (.iload_n 2, 1) := dqr0 dqK_28 dqw_cX6_loan_93 16 rfl rfl
theorem dX6_loan_110 : decode cX6_loan 110 = .ok (.invokevirtual 218, 3) := dqr2 dqK_182 dqw_cX6_loan_93 17 rfl rfl rfl rfl rfl
theorem dX6_loan_113 : decode cX6_loan 113 = .ok (.ldc2_w 222, 3) := dqr2 dqK_20 dqw_cX6_loan_93 20 rfl rfl rfl rfl rfl
theorem dX6_loan_116 : decode cX6_loan 116 = .ok (.lxor, 1) := dqr0 dqK_131 dqw_cX6_loan_93 23 rfl rfl
theorem dqw_cX6_loan_117 : dqLF cX6_loan 117 [127, 184, 0, 198, 172] := by decide +kernel
theorem dX6_loan_117 : decode cX6_loan 117 = .ok (.land, 1) := dqr0 dqK_127 dqw_cX6_loan_117 0 rfl rfl
theorem dX6_loan_118 : decode cX6_loan 118 = .ok (.invokestatic 198, 3) := dqr2 dqK_184 dqw_cX6_loan_117 1 rfl rfl rfl rfl rfl
theorem dX6_loan_121 : decode cX6_loan 121 = .ok (.ireturn, 1) := dqr0 dqK_172 dqw_cX6_loan_117 4 rfl rfl
theorem dqw_cX6_core_0 : dqLF cX6_core 0 [42, 180, 0, 26, 28, 182, 0, 195, 153, 0, 20, 29, 2, 42, 180, 0, 10, 180, 0, 86, 4, 100] := by decide +kernel
theorem dX6_core_0 : decode cX6_core 0 = .ok (.aload_n 0, 1) := dqr0 dqK_42 dqw_cX6_core_0 0 rfl rfl
theorem dX6_core_1 : decode cX6_core 1 = .ok (.getfield 26, 3) := dqr2 dqK_180 dqw_cX6_core_0 1 rfl rfl rfl rfl rfl
theorem dX6_core_4 : decode cX6_core 4 = .ok (.iload_n 2, 1) := dqr0 dqK_28 dqw_cX6_core_0 4 rfl rfl
theorem dX6_core_5 : decode cX6_core 5 = .ok (.invokevirtual 195, 3) := dqr2 dqK_182 dqw_cX6_core_0 5 rfl rfl rfl rfl rfl
theorem dX6_core_8 : decode cX6_core 8 = .ok (.ifCond .eq 20, 3) := dqrs2 dqK_153 dqw_cX6_core_0 8 rfl rfl rfl rfl (by decide)
theorem dX6_core_11 : decode cX6_core 11 = .ok (.iload_n 3, 1) := dqr0 dqK_29 dqw_cX6_core_0 11 rfl rfl
theorem dX6_core_12 : decode cX6_core 12 = .ok (.iconst (-1), 1) := dqr0 dqK_2 dqw_cX6_core_0 12 rfl rfl
theorem dX6_core_13 : decode cX6_core 13 = .ok (.aload_n 0, 1) := dqr0 dqK_42 dqw_cX6_core_0 13 rfl rfl
theorem dX6_core_14 : decode cX6_core 14 = .ok (.getfield 10, 3) := dqr2 dqK_180 dqw_cX6_core_0 14 rfl rfl rfl rfl rfl
theorem dX6_core_17 : decode cX6_core 17 = .ok (.getfield 86, 3) := dqr2 dqK_180 dqw_cX6_core_0 17 rfl rfl rfl rfl rfl
theorem dX6_core_20 : decode cX6_core 20 = .ok (.iconst 1, 1) := dqr0 dqK_4 dqw_cX6_core_0 20 rfl rfl
theorem dX6_core_21 : decode cX6_core 21 = .ok (.isub, 1) := dqr0 dqK_100 dqw_cX6_core_0 21 rfl rfl
theorem dqw_cX6_core_22 : dqLF cX6_core 22 [184, 0, 61, 154, 0, 5, 2, 172, 27, 184, 0, 162, 154, 0, 6, 16, 254, 172, 42, 180, 0, 26, 27, 28] := by decide +kernel
theorem dX6_core_22 : decode cX6_core 22 = .ok (.invokestatic 61, 3) := dqr2 dqK_184 dqw_cX6_core_22 0 rfl rfl rfl rfl rfl
theorem dX6_core_25 : decode cX6_core 25 = .ok (.ifCond .ne 5, 3) := dqrs2 dqK_154 dqw_cX6_core_22 3 rfl rfl rfl rfl (by decide)
theorem dX6_core_28 : decode cX6_core 28 = .ok (.iconst (-1), 1) := dqr0 dqK_2 dqw_cX6_core_22 6 rfl rfl
theorem dX6_core_29 : decode cX6_core 29 = .ok (.ireturn, 1) := dqr0 dqK_172 dqw_cX6_core_22 7 rfl rfl
theorem dX6_core_30 : decode cX6_core 30 = .ok (.iload_n 1, 1) := dqr0 dqK_27 dqw_cX6_core_22 8 rfl rfl
theorem dX6_core_31 : decode cX6_core 31 = .ok (.invokestatic 162, 3) := dqr2 dqK_184 dqw_cX6_core_22 9 rfl rfl rfl rfl rfl
theorem dX6_core_34 : decode cX6_core 34 = .ok (.ifCond .ne 6, 3) := dqrs2 dqK_154 dqw_cX6_core_22 12 rfl rfl rfl rfl (by decide)
theorem dX6_core_37 : decode cX6_core 37 = .ok (.bipush (-2), 2) := dqrs1 dqK_16 dqw_cX6_core_22 15 rfl rfl rfl (by decide)
theorem dX6_core_39 : decode cX6_core 39 = .ok (.ireturn, 1) := dqr0 dqK_172 dqw_cX6_core_22 17 rfl rfl
theorem dX6_core_40 : decode cX6_core 40 = .ok (.aload_n 0, 1) := dqr0 dqK_42 dqw_cX6_core_22 18 rfl rfl
theorem dX6_core_41 : decode cX6_core 41 = .ok (.getfield 26, 3) := dqr2 dqK_180 dqw_cX6_core_22 19 rfl rfl rfl rfl rfl
theorem dX6_core_44 : decode cX6_core 44 = .ok (.iload_n 1, 1) := dqr0 dqK_27 dqw_cX6_core_22 22 rfl rfl
theorem dX6_core_45 : decode cX6_core 45 = .ok (.iload_n 2, 1) := dqr0 dqK_28 dqw_cX6_core_22 23 rfl rfl
theorem dqw_cX6_core_46 : dqLF cX6_core 46 [182, 0, 204, 42, 180, 0, 26, 182, 0, 224, 55, 4, 29, 2, 160, 0, 11, 22, 4, 184, 0, 198] := by decide +kernel
theorem dX6_core_46 : decode cX6_core 46 = .ok (.invokevirtual 204, 3) := dqr2 dqK_182 dqw_cX6_core_46 0 rfl rfl rfl rfl rfl
theorem dX6_core_49 : decode cX6_core 49 = .ok (.aload_n 0, 1) := dqr0 dqK_42 dqw_cX6_core_46 3 rfl rfl
theorem dX6_core_50 : decode cX6_core 50 = .ok (.getfield 26, 3) := dqr2 dqK_180 dqw_cX6_core_46 4 rfl rfl rfl rfl rfl
theorem dX6_core_53 : decode cX6_core 53 = .ok (.invokevirtual 224, 3) := dqr2 dqK_182 dqw_cX6_core_46 7 rfl rfl rfl rfl rfl
theorem dX6_core_56 : decode cX6_core 56 = .ok (.lstore 4, 2) := dqr1 dqK_55 dqw_cX6_core_46 10 rfl rfl rfl
theorem dX6_core_58 : decode cX6_core 58 = .ok (.iload_n 3, 1) := dqr0 dqK_29 dqw_cX6_core_46 12 rfl rfl
theorem dX6_core_59 : decode cX6_core 59 = .ok (.iconst (-1), 1) := dqr0 dqK_2 dqw_cX6_core_46 13 rfl rfl
theorem dX6_core_60 : decode cX6_core 60 = .ok (.if_icmp .ne 11, 3) := dqrs2 dqK_160 dqw_cX6_core_46 14 rfl rfl rfl rfl (by decide)
theorem dX6_core_63 : decode cX6_core 63 = .ok (.lload 4, 2) := dqr1 dqK_22 dqw_cX6_core_46 17 rfl rfl rfl
theorem dX6_core_65 : decode cX6_core 65 = .ok (.invokestatic 198, 3) := dqr2 dqK_184 dqw_cX6_core_46 19 rfl rfl rfl rfl rfl
theorem dqw_cX6_core_68 : dqLF cX6_core 68 [167, 0, 9, 22, 4, 29, 184, 0, 228, 172] := by decide +kernel
theorem dX6_core_68 : decode cX6_core 68 = .ok (.goto 9, 3) := dqrs2 dqK_167 dqw_cX6_core_68 0 rfl rfl rfl rfl (by decide)
theorem dX6_core_71 : decode cX6_core 71 = .ok (.lload 4, 2) := dqr1 dqK_22 dqw_cX6_core_68 3 rfl rfl rfl
theorem dX6_core_73 : decode cX6_core 73 = .ok (.iload_n 3, 1) := dqr0 dqK_29 dqw_cX6_core_68 5 rfl rfl
theorem dX6_core_74 : decode cX6_core 74 = .ok (.invokestatic 228, 3) := dqr2 dqK_184 dqw_cX6_core_68 6 rfl rfl rfl rfl rfl
theorem dX6_core_77 : decode cX6_core 77 = .ok (.ireturn, 1) := dqr0 dqK_172 dqw_cX6_core_68 9 rfl rfl
theorem dqw_cX6_whose_0 : dqLF cX6_whose 0 [42, 180, 0, 10, 27, 182, 0, 96, 153, 0, 14, 42, 180, 0, 26, 29, 182, 0, 195, 154, 0, 5, 2, 172] := by decide +kernel
theorem dX6_whose_0 : decode cX6_whose 0 = .ok (.aload_n 0, 1) := dqr0 dqK_42 dqw_cX6_whose_0 0 rfl rfl
theorem dX6_whose_1 : decode cX6_whose 1 = .ok (.getfield 10, 3) := dqr2 dqK_180 dqw_cX6_whose_0 1 rfl rfl rfl rfl rfl
theorem dX6_whose_4 : decode cX6_whose 4 = .ok (.iload_n 1, 1) := dqr0 dqK_27 dqw_cX6_whose_0 4 rfl rfl
theorem dX6_whose_5 : decode cX6_whose 5 = .ok (.invokevirtual 96, 3) := dqr2 dqK_182 dqw_cX6_whose_0 5 rfl rfl rfl rfl rfl
theorem dX6_whose_8 : decode cX6_whose 8 = .ok (.ifCond .eq 14, 3) := dqrs2 dqK_153 dqw_cX6_whose_0 8 rfl rfl rfl rfl (by decide)
theorem dX6_whose_11 : decode cX6_whose 11 = .ok (.aload_n 0, 1) := dqr0 dqK_42 dqw_cX6_whose_0 11 rfl rfl
theorem dX6_whose_12 : decode cX6_whose 12 = .ok (.getfield 26, 3) := dqr2 dqK_180 dqw_cX6_whose_0 12 rfl rfl rfl rfl rfl
theorem dX6_whose_15 : decode cX6_whose 15 = .ok (.iload_n 3, 1) := dqr0 dqK_29 dqw_cX6_whose_0 15 rfl rfl
theorem dX6_whose_16 : decode cX6_whose 16 = .ok (.invokevirtual 195, 3) := dqr2 dqK_182 dqw_cX6_whose_0 16 rfl rfl rfl rfl rfl
theorem dX6_whose_19 : decode cX6_whose 19 = .ok (.ifCond .ne 5, 3) := dqrs2 dqK_154 dqw_cX6_whose_0 19 rfl rfl rfl rfl (by decide)
theorem dX6_whose_22 : decode cX6_whose 22 = .ok (.iconst (-1), 1) := dqr0 dqK_2 dqw_cX6_whose_0 22 rfl rfl
theorem dX6_whose_23 : decode cX6_whose 23 = .ok (.ireturn, 1) := dqr0 dqK_172 dqw_cX6_whose_0 23 rfl rfl
theorem dqw_cX6_whose_24 : dqLF cX6_whose 24 [28, 184, 0, 162, 154, 0, 6, 16, 254, 172, 42, 180, 0, 26, 28, 29, 182, 0, 204, 42, 180, 0, 26, 27] := by decide +kernel
theorem dX6_whose_24 : decode cX6_whose 24 = .ok (.iload_n 2, 1) := dqr0 dqK_28 dqw_cX6_whose_24 0 rfl rfl
theorem dX6_whose_25 : decode cX6_whose 25 = .ok (.invokestatic 162, 3) := dqr2 dqK_184 dqw_cX6_whose_24 1 rfl rfl rfl rfl rfl
theorem dX6_whose_28 : decode cX6_whose 28 = .ok (.ifCond .ne 6, 3) := dqrs2 dqK_154 dqw_cX6_whose_24 4 rfl rfl rfl rfl (by decide)
theorem dX6_whose_31 : decode cX6_whose 31 = .ok (.bipush (-2), 2) := dqrs1 dqK_16 dqw_cX6_whose_24 7 rfl rfl rfl (by decide)
theorem dX6_whose_33 : decode cX6_whose 33 = .ok (.ireturn, 1) := dqr0 dqK_172 dqw_cX6_whose_24 9 rfl rfl
theorem dX6_whose_34 : decode cX6_whose 34 = .ok (.aload_n 0, 1) := dqr0 dqK_42 dqw_cX6_whose_24 10 rfl rfl
theorem dX6_whose_35 : decode cX6_whose 35 = .ok (.getfield 26, 3) := dqr2 dqK_180 dqw_cX6_whose_24 11 rfl rfl rfl rfl rfl
theorem dX6_whose_38 : decode cX6_whose 38 = .ok (.iload_n 2, 1) := dqr0 dqK_28 dqw_cX6_whose_24 14 rfl rfl
theorem dX6_whose_39 : decode cX6_whose 39 = .ok (.iload_n 3, 1) := dqr0 dqK_29 dqw_cX6_whose_24 15 rfl rfl
theorem dX6_whose_40 : decode cX6_whose 40 = .ok (.invokevirtual 204, 3) := dqr2 dqK_182 dqw_cX6_whose_24 16 rfl rfl rfl rfl rfl
theorem dX6_whose_43 : decode cX6_whose 43 = .ok (.aload_n 0, 1) := dqr0 dqK_42 dqw_cX6_whose_24 19 rfl rfl
theorem dX6_whose_44 : decode cX6_whose 44 = .ok (.getfield 26, 3) := dqr2 dqK_180 dqw_cX6_whose_24 20 rfl rfl rfl rfl rfl
theorem dX6_whose_47 : decode cX6_whose 47 = .ok (.iload_n 1, 1) := dqr0 dqK_27 dqw_cX6_whose_24 23 rfl rfl
theorem dqw_cX6_whose_48 : dqLF cX6_whose 48 [182, 0, 231, 172] := by decide +kernel
theorem dX6_whose_48 : decode cX6_whose 48 = .ok (.invokevirtual 231, 3) := dqr2 dqK_182 dqw_cX6_whose_48 0 rfl rfl rfl rfl rfl
theorem dX6_whose_51 : decode cX6_whose 51 = .ok (.ireturn, 1) := dqr0 dqK_172 dqw_cX6_whose_48 3 rfl rfl
theorem dqw_cX6_put_0 : dqLF cX6_put 0 [28, 16, 40, 159, 0, 16, 42, 180, 0, 10, 28, 182, 0, 96, 154, 0, 5, 2, 172, 27, 153, 0, 14, 27] := by decide +kernel
theorem dX6_put_0 : decode cX6_put 0 = .ok (.iload_n 2, 1) := dqr0 dqK_28 dqw_cX6_put_0 0 rfl rfl
theorem dX6_put_1 : decode cX6_put 1 = .ok (.bipush 40, 2) := dqrs1 dqK_16 dqw_cX6_put_0 1 rfl rfl rfl (by decide)
theorem dX6_put_3 : decode cX6_put 3 = .ok (.if_icmp .eq 16, 3) := dqrs2 dqK_159 dqw_cX6_put_0 3 rfl rfl rfl rfl (by decide)
theorem dX6_put_6 : decode cX6_put 6 = .ok (.aload_n 0, 1) := dqr0 dqK_42 dqw_cX6_put_0 6 rfl rfl
theorem dX6_put_7 : decode cX6_put 7 = .ok (.getfield 10, 3) := dqr2 dqK_180 dqw_cX6_put_0 7 rfl rfl rfl rfl rfl
theorem dX6_put_10 : decode cX6_put 10 = .ok (.iload_n 2, 1) := dqr0 dqK_28 dqw_cX6_put_0 10 rfl rfl
theorem dX6_put_11 : decode cX6_put 11 = .ok (.invokevirtual 96, 3) := dqr2 dqK_182 dqw_cX6_put_0 11 rfl rfl rfl rfl rfl
theorem dX6_put_14 : decode cX6_put 14 = .ok (.ifCond .ne 5, 3) := dqrs2 dqK_154 dqw_cX6_put_0 14 rfl rfl rfl rfl (by decide)
theorem dX6_put_17 : decode cX6_put 17 = .ok (.iconst (-1), 1) := dqr0 dqK_2 dqw_cX6_put_0 17 rfl rfl
theorem dX6_put_18 : decode cX6_put 18 = .ok (.ireturn, 1) := dqr0 dqK_172 dqw_cX6_put_0 18 rfl rfl
theorem dX6_put_19 : decode cX6_put 19 = .ok (.iload_n 1, 1) := dqr0 dqK_27 dqw_cX6_put_0 19 rfl rfl
theorem dX6_put_20 : decode cX6_put 20 = .ok (.ifCond .eq 14, 3) := dqrs2 dqK_153 dqw_cX6_put_0 20 rfl rfl rfl rfl (by decide)
theorem dX6_put_23 : decode cX6_put 23 = .ok (.iload_n 1, 1) := dqr0 dqK_27 dqw_cX6_put_0 23 rfl rfl
theorem dqw_cX6_put_24 : dqLF cX6_put 24 [42, 180, 0, 57, 159, 0, 6, 16, 254, 172, 27, 16, 24, 161, 0, 6, 16, 252, 172, 42, 180, 0, 53, 27] := by decide +kernel
theorem dX6_put_24 : decode cX6_put 24 = .ok (.aload_n 0, 1) := dqr0 dqK_42 dqw_cX6_put_24 0 rfl rfl
theorem dX6_put_25 : decode cX6_put 25 = .ok (.getfield 57, 3) := dqr2 dqK_180 dqw_cX6_put_24 1 rfl rfl rfl rfl rfl
theorem dX6_put_28 : decode cX6_put 28 = .ok (.if_icmp .eq 6, 3) := dqrs2 dqK_159 dqw_cX6_put_24 4 rfl rfl rfl rfl (by decide)
theorem dX6_put_31 : decode cX6_put 31 = .ok (.bipush (-2), 2) := dqrs1 dqK_16 dqw_cX6_put_24 7 rfl rfl rfl (by decide)
theorem dX6_put_33 : decode cX6_put 33 = .ok (.ireturn, 1) := dqr0 dqK_172 dqw_cX6_put_24 9 rfl rfl
theorem dX6_put_34 : decode cX6_put 34 = .ok (.iload_n 1, 1) := dqr0 dqK_27 dqw_cX6_put_24 10 rfl rfl
theorem dX6_put_35 : decode cX6_put 35 = .ok (.bipush 24, 2) := dqrs1 dqK_16 dqw_cX6_put_24 11 rfl rfl rfl (by decide)
theorem dX6_put_37 : decode cX6_put 37 = .ok (.if_icmp .lt 6, 3) := dqrs2 dqK_161 dqw_cX6_put_24 13 rfl rfl rfl rfl (by decide)
theorem dX6_put_40 : decode cX6_put 40 = .ok (.bipush (-4), 2) := dqrs1 dqK_16 dqw_cX6_put_24 16 rfl rfl rfl (by decide)
theorem dX6_put_42 : decode cX6_put 42 = .ok (.ireturn, 1) := dqr0 dqK_172 dqw_cX6_put_24 18 rfl rfl
theorem dX6_put_43 : decode cX6_put 43 = .ok (.aload_n 0, 1) := dqr0 dqK_42 dqw_cX6_put_24 19 rfl rfl
theorem dX6_put_44 : decode cX6_put 44 = .ok (.getfield 53, 3) := dqr2 dqK_180 dqw_cX6_put_24 20 rfl rfl rfl rfl rfl
theorem dX6_put_47 : decode cX6_put 47 = .ok (.iload_n 1, 1) := dqr0 dqK_27 dqw_cX6_put_24 23 rfl rfl
theorem dqw_cX6_put_48 : dqLF cX6_put 48 [28, 79, 42, 27, 4, 96, 181, 0, 57, 42, 180, 0, 57, 172] := by decide +kernel
theorem dX6_put_48 : decode cX6_put 48 = .ok (.iload_n 2, 1) := dqr0 dqK_28 dqw_cX6_put_48 0 rfl rfl
theorem dX6_put_49 : decode cX6_put 49 = .ok (.iastore, 1) := dqr0 dqK_79 dqw_cX6_put_48 1 rfl rfl
theorem dX6_put_50 : decode cX6_put 50 = .ok (.aload_n 0, 1) := dqr0 dqK_42 dqw_cX6_put_48 2 rfl rfl
theorem dX6_put_51 : decode cX6_put 51 = .ok (.iload_n 1, 1) := dqr0 dqK_27 dqw_cX6_put_48 3 rfl rfl
theorem dX6_put_52 : decode cX6_put 52 = .ok (.iconst 1, 1) := dqr0 dqK_4 dqw_cX6_put_48 4 rfl rfl
theorem dX6_put_53 : decode cX6_put 53 = .ok (.iadd, 1) := dqr0 dqK_96 dqw_cX6_put_48 5 rfl rfl
theorem dX6_put_54 : decode cX6_put 54 = .ok (.putfield 57, 3) := dqr2 dqK_181 dqw_cX6_put_48 6 rfl rfl rfl rfl rfl
theorem dX6_put_57 : decode cX6_put 57 = .ok (.aload_n 0, 1) := dqr0 dqK_42 dqw_cX6_put_48 9 rfl rfl
theorem dX6_put_58 : decode cX6_put 58 = .ok (.getfield 57, 3) := dqr2 dqK_180 dqw_cX6_put_48 10 rfl rfl rfl rfl rfl
theorem dX6_put_61 : decode cX6_put 61 = .ok (.ireturn, 1) := dqr0 dqK_172 dqw_cX6_put_48 13 rfl rfl
theorem dqw_cX6_runs_0 : dqLF cX6_runs 0 [42, 180, 0, 19, 27, 182, 0, 156, 153, 0, 26, 42, 180, 0, 26, 28, 182, 0, 159, 153, 0, 15, 42] := by decide +kernel
theorem dX6_runs_0 : decode cX6_runs 0 = .ok (.aload_n 0, 1) := dqr0 dqK_42 dqw_cX6_runs_0 0 rfl rfl
theorem dX6_runs_1 : decode cX6_runs 1 = .ok (.getfield 19, 3) := dqr2 dqK_180 dqw_cX6_runs_0 1 rfl rfl rfl rfl rfl
theorem dX6_runs_4 : decode cX6_runs 4 = .ok (.iload_n 1, 1) := dqr0 dqK_27 dqw_cX6_runs_0 4 rfl rfl
theorem dX6_runs_5 : decode cX6_runs 5 = .ok (.invokevirtual 156, 3) := dqr2 dqK_182 dqw_cX6_runs_0 5 rfl rfl rfl rfl rfl
theorem dX6_runs_8 : decode cX6_runs 8 = .ok (.ifCond .eq 26, 3) := dqrs2 dqK_153 dqw_cX6_runs_0 8 rfl rfl rfl rfl (by decide)
theorem dX6_runs_11 : decode cX6_runs 11 = .ok (.aload_n 0, 1) := dqr0 dqK_42 dqw_cX6_runs_0 11 rfl rfl
theorem dX6_runs_12 : decode cX6_runs 12 = .ok (.getfield 26, 3) := dqr2 dqK_180 dqw_cX6_runs_0 12 rfl rfl rfl rfl rfl
theorem dX6_runs_15 : decode cX6_runs 15 = .ok (.iload_n 2, 1) := dqr0 dqK_28 dqw_cX6_runs_0 15 rfl rfl
theorem dX6_runs_16 : decode cX6_runs 16 = .ok (.invokevirtual 159, 3) := dqr2 dqK_182 dqw_cX6_runs_0 16 rfl rfl rfl rfl rfl
theorem dX6_runs_19 : decode cX6_runs 19 = .ok (.ifCond .eq 15, 3) := dqrs2 dqK_153 dqw_cX6_runs_0 19 rfl rfl rfl rfl (by decide)
theorem dX6_runs_22 : decode cX6_runs 22 = .ok (.aload_n 0, 1) := dqr0 dqK_42 dqw_cX6_runs_0 22 rfl rfl
theorem dqw_cX6_runs_23 : dqLF cX6_runs 23 [180, 0, 26, 21, 4, 182, 0, 195, 154, 0, 5, 2, 172, 29, 184, 0, 162, 154, 0, 6, 16, 254, 172, 42] := by decide +kernel
theorem dX6_runs_23 : decode cX6_runs 23 = .ok (.getfield 26, 3) := dqr2 dqK_180 dqw_cX6_runs_23 0 rfl rfl rfl rfl rfl
theorem dX6_runs_26 : decode cX6_runs 26 = .ok (.iload 4, 2) := dqr1 dqK_21 dqw_cX6_runs_23 3 rfl rfl rfl
theorem dX6_runs_28 : decode cX6_runs 28 = .ok (.invokevirtual 195, 3) := dqr2 dqK_182 dqw_cX6_runs_23 5 rfl rfl rfl rfl rfl
theorem dX6_runs_31 : decode cX6_runs 31 = .ok (.ifCond .ne 5, 3) := dqrs2 dqK_154 dqw_cX6_runs_23 8 rfl rfl rfl rfl (by decide)
theorem dX6_runs_34 : decode cX6_runs 34 = .ok (.iconst (-1), 1) := dqr0 dqK_2 dqw_cX6_runs_23 11 rfl rfl
theorem dX6_runs_35 : decode cX6_runs 35 = .ok (.ireturn, 1) := dqr0 dqK_172 dqw_cX6_runs_23 12 rfl rfl
theorem dX6_runs_36 : decode cX6_runs 36 = .ok (.iload_n 3, 1) := dqr0 dqK_29 dqw_cX6_runs_23 13 rfl rfl
theorem dX6_runs_37 : decode cX6_runs 37 = .ok (.invokestatic 162, 3) := dqr2 dqK_184 dqw_cX6_runs_23 14 rfl rfl rfl rfl rfl
theorem dX6_runs_40 : decode cX6_runs 40 = .ok (.ifCond .ne 6, 3) := dqrs2 dqK_154 dqw_cX6_runs_23 17 rfl rfl rfl rfl (by decide)
theorem dX6_runs_43 : decode cX6_runs 43 = .ok (.bipush (-2), 2) := dqrs1 dqK_16 dqw_cX6_runs_23 20 rfl rfl rfl (by decide)
theorem dX6_runs_45 : decode cX6_runs 45 = .ok (.ireturn, 1) := dqr0 dqK_172 dqw_cX6_runs_23 22 rfl rfl
theorem dX6_runs_46 : decode cX6_runs 46 = .ok (.aload_n 0, 1) := dqr0 dqK_42 dqw_cX6_runs_23 23 rfl rfl
theorem dqw_cX6_runs_47 : dqLF cX6_runs 47 [180, 0, 57, 154, 0, 6, 16, 253, 172, 42, 180, 0, 42, 42, 180, 0, 53, 3, 42, 180, 0, 57, 42] := by decide +kernel
theorem dX6_runs_47 : decode cX6_runs 47 = .ok (.getfield 57, 3) := dqr2 dqK_180 dqw_cX6_runs_47 0 rfl rfl rfl rfl rfl
theorem dX6_runs_50 : decode cX6_runs 50 = .ok (.ifCond .ne 6, 3) := dqrs2 dqK_154 dqw_cX6_runs_47 3 rfl rfl rfl rfl (by decide)
theorem dX6_runs_53 : decode cX6_runs 53 = .ok (.bipush (-3), 2) := dqrs1 dqK_16 dqw_cX6_runs_47 6 rfl rfl rfl (by decide)
theorem dX6_runs_55 : decode cX6_runs 55 = .ok (.ireturn, 1) := dqr0 dqK_172 dqw_cX6_runs_47 8 rfl rfl
theorem dX6_runs_56 : decode cX6_runs 56 = .ok (.aload_n 0, 1) := dqr0 dqK_42 dqw_cX6_runs_47 9 rfl rfl
theorem dX6_runs_57 : decode cX6_runs 57 = .ok (.getfield 42, 3) := dqr2 dqK_180 dqw_cX6_runs_47 10 rfl rfl rfl rfl rfl
theorem dX6_runs_60 : decode cX6_runs 60 = .ok (.aload_n 0, 1) := dqr0 dqK_42 dqw_cX6_runs_47 13 rfl rfl
theorem dX6_runs_61 : decode cX6_runs 61 = .ok (.getfield 53, 3) := dqr2 dqK_180 dqw_cX6_runs_47 14 rfl rfl rfl rfl rfl
theorem dX6_runs_64 : decode cX6_runs 64 = .ok (.iconst 0, 1) := dqr0 dqK_3 dqw_cX6_runs_47 17 rfl rfl
theorem dX6_runs_65 : decode cX6_runs 65 = .ok (.aload_n 0, 1) := dqr0 dqK_42 dqw_cX6_runs_47 18 rfl rfl
theorem dX6_runs_66 : decode cX6_runs 66 = .ok (.getfield 57, 3) := dqr2 dqK_180 dqw_cX6_runs_47 19 rfl rfl rfl rfl rfl
theorem dX6_runs_69 : decode cX6_runs 69 = .ok (.aload_n 0, 1) := dqr0 dqK_42 dqw_cX6_runs_47 22 rfl rfl
theorem dqw_cX6_runs_70 : dqLF cX6_runs 70 [180, 0, 26, 28, 29, 21, 4, 182, 0, 165, 182, 0, 234, 42, 180, 0, 42, 27, 182, 0, 238, 172] := by decide +kernel
theorem dX6_runs_70 : decode cX6_runs 70 = .ok (.getfield 26, 3) := dqr2 dqK_180 dqw_cX6_runs_70 0 rfl rfl rfl rfl rfl
theorem dX6_runs_73 : decode cX6_runs 73 = .ok (.iload_n 2, 1) := dqr0 dqK_28 dqw_cX6_runs_70 3 rfl rfl
theorem dX6_runs_74 : decode cX6_runs 74 = .ok (.iload_n 3, 1) := dqr0 dqK_29 dqw_cX6_runs_70 4 rfl rfl
theorem dX6_runs_75 : decode cX6_runs 75 = .ok (.iload 4, 2) := dqr1 dqK_21 dqw_cX6_runs_70 5 rfl rfl rfl
theorem dX6_runs_77 : decode cX6_runs 77 = .ok (.invokevirtual 165, 3) := dqr2 dqK_182 dqw_cX6_runs_70 7 rfl rfl rfl rfl rfl
theorem dX6_runs_80 : decode cX6_runs 80 = .ok (.invokevirtual 234, 3) := dqr2 dqK_182 dqw_cX6_runs_70 10 rfl rfl rfl rfl rfl
theorem dX6_runs_83 : decode cX6_runs 83 = .ok (.aload_n 0, 1) := dqr0 dqK_42 dqw_cX6_runs_70 13 rfl rfl
theorem dX6_runs_84 : decode cX6_runs 84 = .ok (.getfield 42, 3) := dqr2 dqK_180 dqw_cX6_runs_70 14 rfl rfl rfl rfl rfl
theorem dX6_runs_87 : decode cX6_runs 87 = .ok (.iload_n 1, 1) := dqr0 dqK_27 dqw_cX6_runs_70 17 rfl rfl
theorem dX6_runs_88 : decode cX6_runs 88 = .ok (.invokevirtual 238, 3) := dqr2 dqK_182 dqw_cX6_runs_70 18 rfl rfl rfl rfl rfl
theorem dX6_runs_91 : decode cX6_runs 91 = .ok (.ireturn, 1) := dqr0 dqK_172 dqw_cX6_runs_70 21 rfl rfl
theorem dqw_cX6_forged_0 : dqLF cX6_forged 0 [42, 180, 0, 26, 27, 182, 0, 159, 153, 0, 14, 42, 180, 0, 26, 29, 182, 0, 195, 154, 0, 5, 2, 172] := by decide +kernel
theorem dX6_forged_0 : decode cX6_forged 0 = .ok (.aload_n 0, 1) := dqr0 dqK_42 dqw_cX6_forged_0 0 rfl rfl
theorem dX6_forged_1 : decode cX6_forged 1 = .ok (.getfield 26, 3) := dqr2 dqK_180 dqw_cX6_forged_0 1 rfl rfl rfl rfl rfl
theorem dX6_forged_4 : decode cX6_forged 4 = .ok (.iload_n 1, 1) := dqr0 dqK_27 dqw_cX6_forged_0 4 rfl rfl
theorem dX6_forged_5 : decode cX6_forged 5 = .ok (.invokevirtual 159, 3) := dqr2 dqK_182 dqw_cX6_forged_0 5 rfl rfl rfl rfl rfl
theorem dX6_forged_8 : decode cX6_forged 8 = .ok (.ifCond .eq 14, 3) := dqrs2 dqK_153 dqw_cX6_forged_0 8 rfl rfl rfl rfl (by decide)
theorem dX6_forged_11 : decode cX6_forged 11 = .ok (.aload_n 0, 1) := dqr0 dqK_42 dqw_cX6_forged_0 11 rfl rfl
theorem dX6_forged_12 : decode cX6_forged 12 = .ok (.getfield 26, 3) := dqr2 dqK_180 dqw_cX6_forged_0 12 rfl rfl rfl rfl rfl
theorem dX6_forged_15 : decode cX6_forged 15 = .ok (.iload_n 3, 1) := dqr0 dqK_29 dqw_cX6_forged_0 15 rfl rfl
theorem dX6_forged_16 : decode cX6_forged 16 = .ok (.invokevirtual 195, 3) := dqr2 dqK_182 dqw_cX6_forged_0 16 rfl rfl rfl rfl rfl
theorem dX6_forged_19 : decode cX6_forged 19 = .ok (.ifCond .ne 5, 3) := dqrs2 dqK_154 dqw_cX6_forged_0 19 rfl rfl rfl rfl (by decide)
theorem dX6_forged_22 : decode cX6_forged 22 = .ok (.iconst (-1), 1) := dqr0 dqK_2 dqw_cX6_forged_0 22 rfl rfl
theorem dX6_forged_23 : decode cX6_forged 23 = .ok (.ireturn, 1) := dqr0 dqK_172 dqw_cX6_forged_0 23 rfl rfl
theorem dqw_cX6_forged_24 : dqLF cX6_forged 24 [28, 184, 0, 162, 154, 0, 6, 16, 254, 172, 42, 180, 0, 57, 154, 0, 6, 16, 253, 172, 42, 180, 0, 26] := by decide +kernel
theorem dX6_forged_24 : decode cX6_forged 24 = .ok (.iload_n 2, 1) := dqr0 dqK_28 dqw_cX6_forged_24 0 rfl rfl
theorem dX6_forged_25 : decode cX6_forged 25 = .ok (.invokestatic 162, 3) := dqr2 dqK_184 dqw_cX6_forged_24 1 rfl rfl rfl rfl rfl
theorem dX6_forged_28 : decode cX6_forged 28 = .ok (.ifCond .ne 6, 3) := dqrs2 dqK_154 dqw_cX6_forged_24 4 rfl rfl rfl rfl (by decide)
theorem dX6_forged_31 : decode cX6_forged 31 = .ok (.bipush (-2), 2) := dqrs1 dqK_16 dqw_cX6_forged_24 7 rfl rfl rfl (by decide)
theorem dX6_forged_33 : decode cX6_forged 33 = .ok (.ireturn, 1) := dqr0 dqK_172 dqw_cX6_forged_24 9 rfl rfl
theorem dX6_forged_34 : decode cX6_forged 34 = .ok (.aload_n 0, 1) := dqr0 dqK_42 dqw_cX6_forged_24 10 rfl rfl
theorem dX6_forged_35 : decode cX6_forged 35 = .ok (.getfield 57, 3) := dqr2 dqK_180 dqw_cX6_forged_24 11 rfl rfl rfl rfl rfl
theorem dX6_forged_38 : decode cX6_forged 38 = .ok (.ifCond .ne 6, 3) := dqrs2 dqK_154 dqw_cX6_forged_24 14 rfl rfl rfl rfl (by decide)
theorem dX6_forged_41 : decode cX6_forged 41 = .ok (.bipush (-3), 2) := dqrs1 dqK_16 dqw_cX6_forged_24 17 rfl rfl rfl (by decide)
theorem dX6_forged_43 : decode cX6_forged 43 = .ok (.ireturn, 1) := dqr0 dqK_172 dqw_cX6_forged_24 19 rfl rfl
theorem dX6_forged_44 : decode cX6_forged 44 = .ok (.aload_n 0, 1) := dqr0 dqK_42 dqw_cX6_forged_24 20 rfl rfl
theorem dX6_forged_45 : decode cX6_forged 45 = .ok (.getfield 26, 3) := dqr2 dqK_180 dqw_cX6_forged_24 21 rfl rfl rfl rfl rfl
theorem dqw_cX6_forged_48 : dqLF cX6_forged 48 [28, 29, 182, 0, 204, 42, 180, 0, 26, 27, 182, 0, 241, 55, 4, 3, 54, 6, 21, 6, 42, 180, 0, 57] := by decide +kernel
theorem dX6_forged_48 : decode cX6_forged 48 = .ok (.iload_n 2, 1) := dqr0 dqK_28 dqw_cX6_forged_48 0 rfl rfl
theorem dX6_forged_49 : decode cX6_forged 49 = .ok (.iload_n 3, 1) := dqr0 dqK_29 dqw_cX6_forged_48 1 rfl rfl
theorem dX6_forged_50 : decode cX6_forged 50 = .ok (.invokevirtual 204, 3) := dqr2 dqK_182 dqw_cX6_forged_48 2 rfl rfl rfl rfl rfl
theorem dX6_forged_53 : decode cX6_forged 53 = .ok (.aload_n 0, 1) := dqr0 dqK_42 dqw_cX6_forged_48 5 rfl rfl
theorem dX6_forged_54 : decode cX6_forged 54 = .ok (.getfield 26, 3) := dqr2 dqK_180 dqw_cX6_forged_48 6 rfl rfl rfl rfl rfl
theorem dX6_forged_57 : decode cX6_forged 57 = .ok (.iload_n 1, 1) := dqr0 dqK_27 dqw_cX6_forged_48 9 rfl rfl
theorem dX6_forged_58 : decode cX6_forged 58 = .ok (.invokevirtual 241, 3) := dqr2 dqK_182 dqw_cX6_forged_48 10 rfl rfl rfl rfl rfl
theorem dX6_forged_61 : decode cX6_forged 61 = .ok (.lstore 4, 2) := dqr1 dqK_55 dqw_cX6_forged_48 13 rfl rfl rfl
theorem dX6_forged_63 : decode cX6_forged 63 = .ok (.iconst 0, 1) := dqr0 dqK_3 dqw_cX6_forged_48 15 rfl rfl
theorem dX6_forged_64 : decode cX6_forged 64 = .ok (.istore 6, 2) := dqr1 dqK_54 dqw_cX6_forged_48 16 rfl rfl rfl
theorem dX6_forged_66 : decode cX6_forged 66 = .ok (.iload 6, 2) := dqr1 dqK_21 dqw_cX6_forged_48 18 rfl rfl rfl
theorem dX6_forged_68 : decode cX6_forged 68 = .ok (.aload_n 0, 1) := dqr0 dqK_42 dqw_cX6_forged_48 20 rfl rfl
theorem dX6_forged_69 : decode cX6_forged 69 = .ok (.getfield 57, 3) := dqr2 dqK_180 dqw_cX6_forged_48 21 rfl rfl rfl rfl rfl
theorem dqw_cX6_forged_72 : dqLF cX6_forged 72 [162, 0, 39, 42, 180, 0, 53, 21, 6, 46, 16, 40, 159, 0, 21, 22, 4, 42, 180, 0, 53, 21, 6, 46] := by decide +kernel
theorem dX6_forged_72 : decode cX6_forged 72 = .ok (.if_icmp .ge 39, 3) := dqrs2 dqK_162 dqw_cX6_forged_72 0 rfl rfl rfl rfl (by decide)
theorem dX6_forged_75 : decode cX6_forged 75 = .ok (.aload_n 0, 1) := dqr0 dqK_42 dqw_cX6_forged_72 3 rfl rfl
theorem dX6_forged_76 : decode cX6_forged 76 = .ok (.getfield 53, 3) := dqr2 dqK_180 dqw_cX6_forged_72 4 rfl rfl rfl rfl rfl
theorem dX6_forged_79 : decode cX6_forged 79 = .ok (.iload 6, 2) := dqr1 dqK_21 dqw_cX6_forged_72 7 rfl rfl rfl
theorem dX6_forged_81 : decode cX6_forged 81 = .ok (.iaload, 1) := dqr0 dqK_46 dqw_cX6_forged_72 9 rfl rfl
theorem dX6_forged_82 : decode cX6_forged 82 = .ok (.bipush 40, 2) := dqrs1 dqK_16 dqw_cX6_forged_72 10 rfl rfl rfl (by decide)
theorem dX6_forged_84 : decode cX6_forged 84 = .ok (.if_icmp .eq 21, 3) := dqrs2 dqK_159 dqw_cX6_forged_72 12 rfl rfl rfl rfl (by decide)
theorem dX6_forged_87 : decode cX6_forged 87 = .ok (.lload 4, 2) := dqr1 dqK_22 dqw_cX6_forged_72 15 rfl rfl rfl
theorem dX6_forged_89 : decode cX6_forged 89 = .ok (.aload_n 0, 1) := dqr0 dqK_42 dqw_cX6_forged_72 17 rfl rfl
theorem dX6_forged_90 : decode cX6_forged 90 = .ok (.getfield 53, 3) := dqr2 dqK_180 dqw_cX6_forged_72 18 rfl rfl rfl rfl rfl
theorem dX6_forged_93 : decode cX6_forged 93 = .ok (.iload 6, 2) := dqr1 dqK_21 dqw_cX6_forged_72 21 rfl rfl rfl
theorem dX6_forged_95 : decode cX6_forged 95 = .ok (.iaload, 1) := dqr0 dqK_46 dqw_cX6_forged_72 23 rfl rfl
theorem dqw_cX6_forged_96 : dqLF cX6_forged 96 [184, 0, 115, 154, 0, 6, 21, 6, 172, 132, 6, 1, 167, 255, 214, 16, 251, 172] := by decide +kernel
theorem dX6_forged_96 : decode cX6_forged 96 = .ok (.invokestatic 115, 3) := dqr2 dqK_184 dqw_cX6_forged_96 0 rfl rfl rfl rfl rfl
theorem dX6_forged_99 : decode cX6_forged 99 = .ok (.ifCond .ne 6, 3) := dqrs2 dqK_154 dqw_cX6_forged_96 3 rfl rfl rfl rfl (by decide)
theorem dX6_forged_102 : decode cX6_forged 102 = .ok (.iload 6, 2) := dqr1 dqK_21 dqw_cX6_forged_96 6 rfl rfl rfl
theorem dX6_forged_104 : decode cX6_forged 104 = .ok (.ireturn, 1) := dqr0 dqK_172 dqw_cX6_forged_96 8 rfl rfl
theorem dX6_forged_105 : decode cX6_forged 105 = .ok (.iinc 6 1, 3) := dqri dqK_132 dqw_cX6_forged_96 9 rfl rfl rfl rfl (by decide)
theorem dX6_forged_108 : decode cX6_forged 108 = .ok (.goto (-42), 3) := dqrs2 dqK_167 dqw_cX6_forged_96 12 rfl rfl rfl rfl (by decide)
theorem dX6_forged_111 : decode cX6_forged 111 = .ok (.bipush (-5), 2) := dqrs1 dqK_16 dqw_cX6_forged_96 15 rfl rfl rfl (by decide)
theorem dX6_forged_113 : decode cX6_forged 113 = .ok (.ireturn, 1) := dqr0 dqK_172 dqw_cX6_forged_96 17 rfl rfl
theorem dqw_cX6_record_0 : dqLF cX6_record 0 [42, 180, 0, 26, 27, 182, 0, 159, 153, 0, 14, 42, 180, 0, 19, 28, 182, 0, 156, 154, 0, 5, 2, 172] := by decide +kernel
theorem dX6_record_0 : decode cX6_record 0 = .ok (.aload_n 0, 1) := dqr0 dqK_42 dqw_cX6_record_0 0 rfl rfl
theorem dX6_record_1 : decode cX6_record 1 = .ok (.getfield 26, 3) := dqr2 dqK_180 dqw_cX6_record_0 1 rfl rfl rfl rfl rfl
theorem dX6_record_4 : decode cX6_record 4 = .ok (.iload_n 1, 1) := dqr0 dqK_27 dqw_cX6_record_0 4 rfl rfl
theorem dX6_record_5 : decode cX6_record 5 = .ok (.invokevirtual 159, 3) := dqr2 dqK_182 dqw_cX6_record_0 5 rfl rfl rfl rfl rfl
theorem dX6_record_8 : decode cX6_record 8 = .ok (.ifCond .eq 14, 3) := dqrs2 dqK_153 dqw_cX6_record_0 8 rfl rfl rfl rfl (by decide)
theorem dX6_record_11 : decode cX6_record 11 = .ok (.aload_n 0, 1) := dqr0 dqK_42 dqw_cX6_record_0 11 rfl rfl
theorem dX6_record_12 : decode cX6_record 12 = .ok (.getfield 19, 3) := dqr2 dqK_180 dqw_cX6_record_0 12 rfl rfl rfl rfl rfl
theorem dX6_record_15 : decode cX6_record 15 = .ok (.iload_n 2, 1) := dqr0 dqK_28 dqw_cX6_record_0 15 rfl rfl
theorem dX6_record_16 : decode cX6_record 16 = .ok (.invokevirtual 156, 3) := dqr2 dqK_182 dqw_cX6_record_0 16 rfl rfl rfl rfl rfl
theorem dX6_record_19 : decode cX6_record 19 = .ok (.ifCond .ne 5, 3) := dqrs2 dqK_154 dqw_cX6_record_0 19 rfl rfl rfl rfl (by decide)
theorem dX6_record_22 : decode cX6_record 22 = .ok (.iconst (-1), 1) := dqr0 dqK_2 dqw_cX6_record_0 22 rfl rfl
theorem dX6_record_23 : decode cX6_record 23 = .ok (.ireturn, 1) := dqr0 dqK_172 dqw_cX6_record_0 23 rfl rfl
theorem dqw_cX6_record_24 : dqLF cX6_record 24 [29, 184, 0, 162, 154, 0, 6, 16, 254, 172, 42, 180, 0, 57, 154, 0, 6, 16, 253, 172, 42, 180, 0, 49] := by decide +kernel
theorem dX6_record_24 : decode cX6_record 24 = .ok (.iload_n 3, 1) := dqr0 dqK_29 dqw_cX6_record_24 0 rfl rfl
theorem dX6_record_25 : decode cX6_record 25 = .ok (.invokestatic 162, 3) := dqr2 dqK_184 dqw_cX6_record_24 1 rfl rfl rfl rfl rfl
theorem dX6_record_28 : decode cX6_record 28 = .ok (.ifCond .ne 6, 3) := dqrs2 dqK_154 dqw_cX6_record_24 4 rfl rfl rfl rfl (by decide)
theorem dX6_record_31 : decode cX6_record 31 = .ok (.bipush (-2), 2) := dqrs1 dqK_16 dqw_cX6_record_24 7 rfl rfl rfl (by decide)
theorem dX6_record_33 : decode cX6_record 33 = .ok (.ireturn, 1) := dqr0 dqK_172 dqw_cX6_record_24 9 rfl rfl
theorem dX6_record_34 : decode cX6_record 34 = .ok (.aload_n 0, 1) := dqr0 dqK_42 dqw_cX6_record_24 10 rfl rfl
theorem dX6_record_35 : decode cX6_record 35 = .ok (.getfield 57, 3) := dqr2 dqK_180 dqw_cX6_record_24 11 rfl rfl rfl rfl rfl
theorem dX6_record_38 : decode cX6_record 38 = .ok (.ifCond .ne 6, 3) := dqrs2 dqK_154 dqw_cX6_record_24 14 rfl rfl rfl rfl (by decide)
theorem dX6_record_41 : decode cX6_record 41 = .ok (.bipush (-3), 2) := dqrs1 dqK_16 dqw_cX6_record_24 17 rfl rfl rfl (by decide)
theorem dX6_record_43 : decode cX6_record 43 = .ok (.ireturn, 1) := dqr0 dqK_172 dqw_cX6_record_24 19 rfl rfl
theorem dX6_record_44 : decode cX6_record 44 = .ok (.aload_n 0, 1) := dqr0 dqK_42 dqw_cX6_record_24 20 rfl rfl
theorem dX6_record_45 : decode cX6_record 45 = .ok (.getfield 49, 3) := dqr2 dqK_180 dqw_cX6_record_24 21 rfl rfl rfl rfl rfl
theorem dqw_cX6_record_48 : dqLF cX6_record 48 [180, 0, 244, 16, 12, 161, 0, 6, 16, 252, 172, 42, 180, 0, 49, 27, 28, 29, 42, 180, 0, 53, 42] := by decide +kernel
theorem dX6_record_48 : decode cX6_record 48 = .ok (.getfield 244, 3) := dqr2 dqK_180 dqw_cX6_record_48 0 rfl rfl rfl rfl rfl
theorem dX6_record_51 : decode cX6_record 51 = .ok (.bipush 12, 2) := dqrs1 dqK_16 dqw_cX6_record_48 3 rfl rfl rfl (by decide)
theorem dX6_record_53 : decode cX6_record 53 = .ok (.if_icmp .lt 6, 3) := dqrs2 dqK_161 dqw_cX6_record_48 5 rfl rfl rfl rfl (by decide)
theorem dX6_record_56 : decode cX6_record 56 = .ok (.bipush (-4), 2) := dqrs1 dqK_16 dqw_cX6_record_48 8 rfl rfl rfl (by decide)
theorem dX6_record_58 : decode cX6_record 58 = .ok (.ireturn, 1) := dqr0 dqK_172 dqw_cX6_record_48 10 rfl rfl
theorem dX6_record_59 : decode cX6_record 59 = .ok (.aload_n 0, 1) := dqr0 dqK_42 dqw_cX6_record_48 11 rfl rfl
theorem dX6_record_60 : decode cX6_record 60 = .ok (.getfield 49, 3) := dqr2 dqK_180 dqw_cX6_record_48 12 rfl rfl rfl rfl rfl
theorem dX6_record_63 : decode cX6_record 63 = .ok (.iload_n 1, 1) := dqr0 dqK_27 dqw_cX6_record_48 15 rfl rfl
theorem dX6_record_64 : decode cX6_record 64 = .ok (.iload_n 2, 1) := dqr0 dqK_28 dqw_cX6_record_48 16 rfl rfl
theorem dX6_record_65 : decode cX6_record 65 = .ok (.iload_n 3, 1) := dqr0 dqK_29 dqw_cX6_record_48 17 rfl rfl
theorem dX6_record_66 : decode cX6_record 66 = .ok (.aload_n 0, 1) := dqr0 dqK_42 dqw_cX6_record_48 18 rfl rfl
theorem dX6_record_67 : decode cX6_record 67 = .ok (.getfield 53, 3) := dqr2 dqK_180 dqw_cX6_record_48 19 rfl rfl rfl rfl rfl
theorem dX6_record_70 : decode cX6_record 70 = .ok (.aload_n 0, 1) := dqr0 dqK_42 dqw_cX6_record_48 22 rfl rfl
theorem dqw_cX6_record_71 : dqLF cX6_record 71 [180, 0, 57, 182, 0, 247, 172] := by decide +kernel
theorem dX6_record_71 : decode cX6_record 71 = .ok (.getfield 57, 3) := dqr2 dqK_180 dqw_cX6_record_71 0 rfl rfl rfl rfl rfl
theorem dX6_record_74 : decode cX6_record 74 = .ok (.invokevirtual 247, 3) := dqr2 dqK_182 dqw_cX6_record_71 3 rfl rfl rfl rfl rfl
theorem dX6_record_77 : decode cX6_record 77 = .ok (.ireturn, 1) := dqr0 dqK_172 dqw_cX6_record_71 6 rfl rfl
theorem dqw_cX6_heard_0 : dqLF cX6_heard 0 [42, 180, 0, 49, 27, 182, 0, 251, 153, 0, 14, 42, 180, 0, 26, 28, 182, 0, 195, 154, 0, 5, 2, 172] := by decide +kernel
theorem dX6_heard_0 : decode cX6_heard 0 = .ok (.aload_n 0, 1) := dqr0 dqK_42 dqw_cX6_heard_0 0 rfl rfl
theorem dX6_heard_1 : decode cX6_heard 1 = .ok (.getfield 49, 3) := dqr2 dqK_180 dqw_cX6_heard_0 1 rfl rfl rfl rfl rfl
theorem dX6_heard_4 : decode cX6_heard 4 = .ok (.iload_n 1, 1) := dqr0 dqK_27 dqw_cX6_heard_0 4 rfl rfl
theorem dX6_heard_5 : decode cX6_heard 5 = .ok (.invokevirtual 251, 3) := dqr2 dqK_182 dqw_cX6_heard_0 5 rfl rfl rfl rfl rfl
theorem dX6_heard_8 : decode cX6_heard 8 = .ok (.ifCond .eq 14, 3) := dqrs2 dqK_153 dqw_cX6_heard_0 8 rfl rfl rfl rfl (by decide)
theorem dX6_heard_11 : decode cX6_heard 11 = .ok (.aload_n 0, 1) := dqr0 dqK_42 dqw_cX6_heard_0 11 rfl rfl
theorem dX6_heard_12 : decode cX6_heard 12 = .ok (.getfield 26, 3) := dqr2 dqK_180 dqw_cX6_heard_0 12 rfl rfl rfl rfl rfl
theorem dX6_heard_15 : decode cX6_heard 15 = .ok (.iload_n 2, 1) := dqr0 dqK_28 dqw_cX6_heard_0 15 rfl rfl
theorem dX6_heard_16 : decode cX6_heard 16 = .ok (.invokevirtual 195, 3) := dqr2 dqK_182 dqw_cX6_heard_0 16 rfl rfl rfl rfl rfl
theorem dX6_heard_19 : decode cX6_heard 19 = .ok (.ifCond .ne 5, 3) := dqrs2 dqK_154 dqw_cX6_heard_0 19 rfl rfl rfl rfl (by decide)
theorem dX6_heard_22 : decode cX6_heard 22 = .ok (.iconst (-1), 1) := dqr0 dqK_2 dqw_cX6_heard_0 22 rfl rfl
theorem dX6_heard_23 : decode cX6_heard 23 = .ok (.ireturn, 1) := dqr0 dqK_172 dqw_cX6_heard_0 23 rfl rfl
theorem dqw_cX6_heard_24 : dqLF cX6_heard 24 [29] := by decide +kernel
theorem dX6_heard_24 : decode cX6_heard 24 = .ok (.iload_n 3, 1) := dqr0 dqK_29 dqw_cX6_heard_24 0 rfl rfl
theorem dX6_heard_25 : decode cX6_heard 25 = .ok (.tableswitch 96 0 3 #[31, 62, 77, 86], 31) := by decide +kernel
theorem dqw_cX6_heard_56 : dqLF cX6_heard 56 [42, 27, 28, 182, 0, 254, 42, 180, 0, 42, 42, 180, 0, 49, 180, 1, 1, 27, 46, 182, 0, 238] := by decide +kernel
theorem dX6_heard_56 : decode cX6_heard 56 = .ok (.aload_n 0, 1) := dqr0 dqK_42 dqw_cX6_heard_56 0 rfl rfl
theorem dX6_heard_57 : decode cX6_heard 57 = .ok (.iload_n 1, 1) := dqr0 dqK_27 dqw_cX6_heard_56 1 rfl rfl
theorem dX6_heard_58 : decode cX6_heard 58 = .ok (.iload_n 2, 1) := dqr0 dqK_28 dqw_cX6_heard_56 2 rfl rfl
theorem dX6_heard_59 : decode cX6_heard 59 = .ok (.invokevirtual 254, 3) := dqr2 dqK_182 dqw_cX6_heard_56 3 rfl rfl rfl rfl rfl
theorem dX6_heard_62 : decode cX6_heard 62 = .ok (.aload_n 0, 1) := dqr0 dqK_42 dqw_cX6_heard_56 6 rfl rfl
theorem dX6_heard_63 : decode cX6_heard 63 = .ok (.getfield 42, 3) := dqr2 dqK_180 dqw_cX6_heard_56 7 rfl rfl rfl rfl rfl
theorem dX6_heard_66 : decode cX6_heard 66 = .ok (.aload_n 0, 1) := dqr0 dqK_42 dqw_cX6_heard_56 10 rfl rfl
theorem dX6_heard_67 : decode cX6_heard 67 = .ok (.getfield 49, 3) := dqr2 dqK_180 dqw_cX6_heard_56 11 rfl rfl rfl rfl rfl
theorem dX6_heard_70 : decode cX6_heard 70 = .ok (.getfield 257, 3) := dqr2 dqK_180 dqw_cX6_heard_56 14 rfl rfl rfl rfl rfl
theorem dX6_heard_73 : decode cX6_heard 73 = .ok (.iload_n 1, 1) := dqr0 dqK_27 dqw_cX6_heard_56 17 rfl rfl
theorem dX6_heard_74 : decode cX6_heard 74 = .ok (.iaload, 1) := dqr0 dqK_46 dqw_cX6_heard_56 18 rfl rfl
theorem dX6_heard_75 : decode cX6_heard 75 = .ok (.invokevirtual 238, 3) := dqr2 dqK_182 dqw_cX6_heard_56 19 rfl rfl rfl rfl rfl
theorem dqw_cX6_heard_78 : dqLF cX6_heard 78 [158, 0, 7, 4, 167, 0, 4, 3, 172, 42, 180, 0, 49, 27, 42, 27, 28, 182, 1, 4, 182, 1, 8, 172] := by decide +kernel
theorem dX6_heard_78 : decode cX6_heard 78 = .ok (.ifCond .le 7, 3) := dqrs2 dqK_158 dqw_cX6_heard_78 0 rfl rfl rfl rfl (by decide)
theorem dX6_heard_81 : decode cX6_heard 81 = .ok (.iconst 1, 1) := dqr0 dqK_4 dqw_cX6_heard_78 3 rfl rfl
theorem dX6_heard_82 : decode cX6_heard 82 = .ok (.goto 4, 3) := dqrs2 dqK_167 dqw_cX6_heard_78 4 rfl rfl rfl rfl (by decide)
theorem dX6_heard_85 : decode cX6_heard 85 = .ok (.iconst 0, 1) := dqr0 dqK_3 dqw_cX6_heard_78 7 rfl rfl
theorem dX6_heard_86 : decode cX6_heard 86 = .ok (.ireturn, 1) := dqr0 dqK_172 dqw_cX6_heard_78 8 rfl rfl
theorem dX6_heard_87 : decode cX6_heard 87 = .ok (.aload_n 0, 1) := dqr0 dqK_42 dqw_cX6_heard_78 9 rfl rfl
theorem dX6_heard_88 : decode cX6_heard 88 = .ok (.getfield 49, 3) := dqr2 dqK_180 dqw_cX6_heard_78 10 rfl rfl rfl rfl rfl
theorem dX6_heard_91 : decode cX6_heard 91 = .ok (.iload_n 1, 1) := dqr0 dqK_27 dqw_cX6_heard_78 13 rfl rfl
theorem dX6_heard_92 : decode cX6_heard 92 = .ok (.aload_n 0, 1) := dqr0 dqK_42 dqw_cX6_heard_78 14 rfl rfl
theorem dX6_heard_93 : decode cX6_heard 93 = .ok (.iload_n 1, 1) := dqr0 dqK_27 dqw_cX6_heard_78 15 rfl rfl
theorem dX6_heard_94 : decode cX6_heard 94 = .ok (.iload_n 2, 1) := dqr0 dqK_28 dqw_cX6_heard_78 16 rfl rfl
theorem dX6_heard_95 : decode cX6_heard 95 = .ok (.invokevirtual 260, 3) := dqr2 dqK_182 dqw_cX6_heard_78 17 rfl rfl rfl rfl rfl
theorem dX6_heard_98 : decode cX6_heard 98 = .ok (.invokevirtual 264, 3) := dqr2 dqK_182 dqw_cX6_heard_78 20 rfl rfl rfl rfl rfl
theorem dX6_heard_101 : decode cX6_heard 101 = .ok (.ireturn, 1) := dqr0 dqK_172 dqw_cX6_heard_78 23 rfl rfl
theorem dqw_cX6_heard_102 : dqLF cX6_heard 102 [42, 180, 0, 49, 27, 182, 1, 12, 172, 42, 180, 0, 49, 180, 1, 15, 27, 46, 172, 2, 172] := by decide +kernel
theorem dX6_heard_102 : decode cX6_heard 102 = .ok (.aload_n 0, 1) := dqr0 dqK_42 dqw_cX6_heard_102 0 rfl rfl
theorem dX6_heard_103 : decode cX6_heard 103 = .ok (.getfield 49, 3) := dqr2 dqK_180 dqw_cX6_heard_102 1 rfl rfl rfl rfl rfl
theorem dX6_heard_106 : decode cX6_heard 106 = .ok (.iload_n 1, 1) := dqr0 dqK_27 dqw_cX6_heard_102 4 rfl rfl
theorem dX6_heard_107 : decode cX6_heard 107 = .ok (.invokevirtual 268, 3) := dqr2 dqK_182 dqw_cX6_heard_102 5 rfl rfl rfl rfl rfl
theorem dX6_heard_110 : decode cX6_heard 110 = .ok (.ireturn, 1) := dqr0 dqK_172 dqw_cX6_heard_102 8 rfl rfl
theorem dX6_heard_111 : decode cX6_heard 111 = .ok (.aload_n 0, 1) := dqr0 dqK_42 dqw_cX6_heard_102 9 rfl rfl
theorem dX6_heard_112 : decode cX6_heard 112 = .ok (.getfield 49, 3) := dqr2 dqK_180 dqw_cX6_heard_102 10 rfl rfl rfl rfl rfl
theorem dX6_heard_115 : decode cX6_heard 115 = .ok (.getfield 271, 3) := dqr2 dqK_180 dqw_cX6_heard_102 13 rfl rfl rfl rfl rfl
theorem dX6_heard_118 : decode cX6_heard 118 = .ok (.iload_n 1, 1) := dqr0 dqK_27 dqw_cX6_heard_102 16 rfl rfl
theorem dX6_heard_119 : decode cX6_heard 119 = .ok (.iaload, 1) := dqr0 dqK_46 dqw_cX6_heard_102 17 rfl rfl
theorem dX6_heard_120 : decode cX6_heard 120 = .ok (.ireturn, 1) := dqr0 dqK_172 dqw_cX6_heard_102 18 rfl rfl
theorem dX6_heard_121 : decode cX6_heard 121 = .ok (.iconst (-1), 1) := dqr0 dqK_2 dqw_cX6_heard_102 19 rfl rfl
theorem dX6_heard_122 : decode cX6_heard 122 = .ok (.ireturn, 1) := dqr0 dqK_172 dqw_cX6_heard_102 20 rfl rfl
theorem dqw_cX6_filled_0 : dqLF cX6_filled 0 [42, 180, 0, 49, 27, 182, 0, 251, 153, 0, 14, 42, 180, 0, 26, 28, 182, 0, 195, 154, 0, 5, 2, 172] := by decide +kernel
theorem dX6_filled_0 : decode cX6_filled 0 = .ok (.aload_n 0, 1) := dqr0 dqK_42 dqw_cX6_filled_0 0 rfl rfl
theorem dX6_filled_1 : decode cX6_filled 1 = .ok (.getfield 49, 3) := dqr2 dqK_180 dqw_cX6_filled_0 1 rfl rfl rfl rfl rfl
theorem dX6_filled_4 : decode cX6_filled 4 = .ok (.iload_n 1, 1) := dqr0 dqK_27 dqw_cX6_filled_0 4 rfl rfl
theorem dX6_filled_5 : decode cX6_filled 5 = .ok (.invokevirtual 251, 3) := dqr2 dqK_182 dqw_cX6_filled_0 5 rfl rfl rfl rfl rfl
theorem dX6_filled_8 : decode cX6_filled 8 = .ok (.ifCond .eq 14, 3) := dqrs2 dqK_153 dqw_cX6_filled_0 8 rfl rfl rfl rfl (by decide)
theorem dX6_filled_11 : decode cX6_filled 11 = .ok (.aload_n 0, 1) := dqr0 dqK_42 dqw_cX6_filled_0 11 rfl rfl
theorem dX6_filled_12 : decode cX6_filled 12 = .ok (.getfield 26, 3) := dqr2 dqK_180 dqw_cX6_filled_0 12 rfl rfl rfl rfl rfl
theorem dX6_filled_15 : decode cX6_filled 15 = .ok (.iload_n 2, 1) := dqr0 dqK_28 dqw_cX6_filled_0 15 rfl rfl
theorem dX6_filled_16 : decode cX6_filled 16 = .ok (.invokevirtual 195, 3) := dqr2 dqK_182 dqw_cX6_filled_0 16 rfl rfl rfl rfl rfl
theorem dX6_filled_19 : decode cX6_filled 19 = .ok (.ifCond .ne 5, 3) := dqrs2 dqK_154 dqw_cX6_filled_0 19 rfl rfl rfl rfl (by decide)
theorem dX6_filled_22 : decode cX6_filled 22 = .ok (.iconst (-1), 1) := dqr0 dqK_2 dqw_cX6_filled_0 22 rfl rfl
theorem dX6_filled_23 : decode cX6_filled 23 = .ok (.ireturn, 1) := dqr0 dqK_172 dqw_cX6_filled_0 23 rfl rfl
theorem dqw_cX6_filled_24 : dqLF cX6_filled 24 [42, 180, 0, 49, 27, 29, 182, 1, 18, 154, 0, 5, 2, 172, 42, 27, 28, 182, 0, 254, 42, 180, 0, 42] := by decide +kernel
theorem dX6_filled_24 : decode cX6_filled 24 = .ok (.aload_n 0, 1) := dqr0 dqK_42 dqw_cX6_filled_24 0 rfl rfl
theorem dX6_filled_25 : decode cX6_filled 25 = .ok (.getfield 49, 3) := dqr2 dqK_180 dqw_cX6_filled_24 1 rfl rfl rfl rfl rfl
theorem dX6_filled_28 : decode cX6_filled 28 = .ok (.iload_n 1, 1) := dqr0 dqK_27 dqw_cX6_filled_24 4 rfl rfl
theorem dX6_filled_29 : decode cX6_filled 29 = .ok (.iload_n 3, 1) := dqr0 dqK_29 dqw_cX6_filled_24 5 rfl rfl
theorem dX6_filled_30 : decode cX6_filled 30 = .ok (.invokevirtual 274, 3) := dqr2 dqK_182 dqw_cX6_filled_24 6 rfl rfl rfl rfl rfl
theorem dX6_filled_33 : decode cX6_filled 33 = .ok (.ifCond .ne 5, 3) := dqrs2 dqK_154 dqw_cX6_filled_24 9 rfl rfl rfl rfl (by decide)
theorem dX6_filled_36 : decode cX6_filled 36 = .ok (.iconst (-1), 1) := dqr0 dqK_2 dqw_cX6_filled_24 12 rfl rfl
theorem dX6_filled_37 : decode cX6_filled 37 = .ok (.ireturn, 1) := dqr0 dqK_172 dqw_cX6_filled_24 13 rfl rfl
theorem dX6_filled_38 : decode cX6_filled 38 = .ok (.aload_n 0, 1) := dqr0 dqK_42 dqw_cX6_filled_24 14 rfl rfl
theorem dX6_filled_39 : decode cX6_filled 39 = .ok (.iload_n 1, 1) := dqr0 dqK_27 dqw_cX6_filled_24 15 rfl rfl
theorem dX6_filled_40 : decode cX6_filled 40 = .ok (.iload_n 2, 1) := dqr0 dqK_28 dqw_cX6_filled_24 16 rfl rfl
theorem dX6_filled_41 : decode cX6_filled 41 = .ok (.invokevirtual 254, 3) := dqr2 dqK_182 dqw_cX6_filled_24 17 rfl rfl rfl rfl rfl
theorem dX6_filled_44 : decode cX6_filled 44 = .ok (.aload_n 0, 1) := dqr0 dqK_42 dqw_cX6_filled_24 20 rfl rfl
theorem dX6_filled_45 : decode cX6_filled 45 = .ok (.getfield 42, 3) := dqr2 dqK_180 dqw_cX6_filled_24 21 rfl rfl rfl rfl rfl
theorem dqw_cX6_filled_48 : dqLF cX6_filled 48 [42, 180, 0, 49, 180, 1, 1, 27, 46, 29, 182, 1, 21, 54, 4, 21, 4, 2, 160, 0, 8, 16, 253] := by decide +kernel
theorem dX6_filled_48 : decode cX6_filled 48 = .ok (.aload_n 0, 1) := dqr0 dqK_42 dqw_cX6_filled_48 0 rfl rfl
theorem dX6_filled_49 : decode cX6_filled 49 = .ok (.getfield 49, 3) := dqr2 dqK_180 dqw_cX6_filled_48 1 rfl rfl rfl rfl rfl
theorem dX6_filled_52 : decode cX6_filled 52 = .ok (.getfield 257, 3) := dqr2 dqK_180 dqw_cX6_filled_48 4 rfl rfl rfl rfl rfl
theorem dX6_filled_55 : decode cX6_filled 55 = .ok (.iload_n 1, 1) := dqr0 dqK_27 dqw_cX6_filled_48 7 rfl rfl
theorem dX6_filled_56 : decode cX6_filled 56 = .ok (.iaload, 1) := dqr0 dqK_46 dqw_cX6_filled_48 8 rfl rfl
theorem dX6_filled_57 : decode cX6_filled 57 = .ok (.iload_n 3, 1) := dqr0 dqK_29 dqw_cX6_filled_48 9 rfl rfl
theorem dX6_filled_58 : decode cX6_filled 58 = .ok (.invokevirtual 277, 3) := dqr2 dqK_182 dqw_cX6_filled_48 10 rfl rfl rfl rfl rfl
theorem dX6_filled_61 : decode cX6_filled 61 = .ok (.istore 4, 2) := dqr1 dqK_54 dqw_cX6_filled_48 13 rfl rfl rfl
theorem dX6_filled_63 : decode cX6_filled 63 = .ok (.iload 4, 2) := dqr1 dqK_21 dqw_cX6_filled_48 15 rfl rfl rfl
theorem dX6_filled_65 : decode cX6_filled 65 = .ok (.iconst (-1), 1) := dqr0 dqK_2 dqw_cX6_filled_48 17 rfl rfl
theorem dX6_filled_66 : decode cX6_filled 66 = .ok (.if_icmp .ne 8, 3) := dqrs2 dqK_160 dqw_cX6_filled_48 18 rfl rfl rfl rfl (by decide)
theorem dX6_filled_69 : decode cX6_filled 69 = .ok (.bipush (-3), 2) := dqrs1 dqK_16 dqw_cX6_filled_48 21 rfl rfl rfl (by decide)
theorem dqw_cX6_filled_71 : dqLF cX6_filled 71 [167, 0, 5, 21, 4, 172] := by decide +kernel
theorem dX6_filled_71 : decode cX6_filled 71 = .ok (.goto 5, 3) := dqrs2 dqK_167 dqw_cX6_filled_71 0 rfl rfl rfl rfl (by decide)
theorem dX6_filled_74 : decode cX6_filled 74 = .ok (.iload 4, 2) := dqr1 dqK_21 dqw_cX6_filled_71 3 rfl rfl rfl
theorem dX6_filled_76 : decode cX6_filled 76 = .ok (.ireturn, 1) := dqr0 dqK_172 dqw_cX6_filled_71 5 rfl rfl
theorem dqw_cX6_count_0 : dqLF cX6_count 0 [27] := by decide +kernel
theorem dX6_count_0 : decode cX6_count 0 = .ok (.iload_n 1, 1) := dqr0 dqK_27 dqw_cX6_count_0 0 rfl rfl
theorem dX6_count_1 : decode cX6_count 1 = .ok (.tableswitch 123 0 8 #[51, 59, 67, 75, 83, 91, 99, 107, 115], 51) := by decide +kernel
theorem dqw_cX6_count_52 : dqLF cX6_count 52 [42, 180, 0, 10, 180, 0, 69, 172, 42, 180, 0, 10, 180, 0, 86, 172, 42, 180, 0, 19, 180, 1, 24, 172] := by decide +kernel
theorem dX6_count_52 : decode cX6_count 52 = .ok (.aload_n 0, 1) := dqr0 dqK_42 dqw_cX6_count_52 0 rfl rfl
theorem dX6_count_53 : decode cX6_count 53 = .ok (.getfield 10, 3) := dqr2 dqK_180 dqw_cX6_count_52 1 rfl rfl rfl rfl rfl
theorem dX6_count_56 : decode cX6_count 56 = .ok (.getfield 69, 3) := dqr2 dqK_180 dqw_cX6_count_52 4 rfl rfl rfl rfl rfl
theorem dX6_count_59 : decode cX6_count 59 = .ok (.ireturn, 1) := dqr0 dqK_172 dqw_cX6_count_52 7 rfl rfl
theorem dX6_count_60 : decode cX6_count 60 = .ok (.aload_n 0, 1) := dqr0 dqK_42 dqw_cX6_count_52 8 rfl rfl
theorem dX6_count_61 : decode cX6_count 61 = .ok (.getfield 10, 3) := dqr2 dqK_180 dqw_cX6_count_52 9 rfl rfl rfl rfl rfl
theorem dX6_count_64 : decode cX6_count 64 = .ok (.getfield 86, 3) := dqr2 dqK_180 dqw_cX6_count_52 12 rfl rfl rfl rfl rfl
theorem dX6_count_67 : decode cX6_count 67 = .ok (.ireturn, 1) := dqr0 dqK_172 dqw_cX6_count_52 15 rfl rfl
theorem dX6_count_68 : decode cX6_count 68 = .ok (.aload_n 0, 1) := dqr0 dqK_42 dqw_cX6_count_52 16 rfl rfl
theorem dX6_count_69 : decode cX6_count 69 = .ok (.getfield 19, 3) := dqr2 dqK_180 dqw_cX6_count_52 17 rfl rfl rfl rfl rfl
theorem dX6_count_72 : decode cX6_count 72 = .ok (.getfield 280, 3) := dqr2 dqK_180 dqw_cX6_count_52 20 rfl rfl rfl rfl rfl
theorem dX6_count_75 : decode cX6_count 75 = .ok (.ireturn, 1) := dqr0 dqK_172 dqw_cX6_count_52 23 rfl rfl
theorem dqw_cX6_count_76 : dqLF cX6_count 76 [42, 180, 0, 26, 180, 0, 179, 172, 42, 180, 0, 26, 180, 0, 188, 172, 42, 180, 0, 49, 180, 0, 244, 172] := by decide +kernel
theorem dX6_count_76 : decode cX6_count 76 = .ok (.aload_n 0, 1) := dqr0 dqK_42 dqw_cX6_count_76 0 rfl rfl
theorem dX6_count_77 : decode cX6_count 77 = .ok (.getfield 26, 3) := dqr2 dqK_180 dqw_cX6_count_76 1 rfl rfl rfl rfl rfl
theorem dX6_count_80 : decode cX6_count 80 = .ok (.getfield 179, 3) := dqr2 dqK_180 dqw_cX6_count_76 4 rfl rfl rfl rfl rfl
theorem dX6_count_83 : decode cX6_count 83 = .ok (.ireturn, 1) := dqr0 dqK_172 dqw_cX6_count_76 7 rfl rfl
theorem dX6_count_84 : decode cX6_count 84 = .ok (.aload_n 0, 1) := dqr0 dqK_42 dqw_cX6_count_76 8 rfl rfl
theorem dX6_count_85 : decode cX6_count 85 = .ok (.getfield 26, 3) := dqr2 dqK_180 dqw_cX6_count_76 9 rfl rfl rfl rfl rfl
theorem dX6_count_88 : decode cX6_count 88 = .ok (.getfield 188, 3) := dqr2 dqK_180 dqw_cX6_count_76 12 rfl rfl rfl rfl rfl
theorem dX6_count_91 : decode cX6_count 91 = .ok (.ireturn, 1) := dqr0 dqK_172 dqw_cX6_count_76 15 rfl rfl
theorem dX6_count_92 : decode cX6_count 92 = .ok (.aload_n 0, 1) := dqr0 dqK_42 dqw_cX6_count_76 16 rfl rfl
theorem dX6_count_93 : decode cX6_count 93 = .ok (.getfield 49, 3) := dqr2 dqK_180 dqw_cX6_count_76 17 rfl rfl rfl rfl rfl
theorem dX6_count_96 : decode cX6_count 96 = .ok (.getfield 244, 3) := dqr2 dqK_180 dqw_cX6_count_76 20 rfl rfl rfl rfl rfl
theorem dX6_count_99 : decode cX6_count 99 = .ok (.ireturn, 1) := dqr0 dqK_172 dqw_cX6_count_76 23 rfl rfl
theorem dqw_cX6_count_100 : dqLF cX6_count 100 [42, 180, 0, 19, 180, 0, 143, 172, 42, 180, 0, 19, 180, 0, 153, 172, 42, 180, 0, 10, 182, 1, 27, 172] := by decide +kernel
theorem dX6_count_100 : decode cX6_count 100 = .ok (.aload_n 0, 1) := dqr0 dqK_42 dqw_cX6_count_100 0 rfl rfl
theorem dX6_count_101 : decode cX6_count 101 = .ok (.getfield 19, 3) := dqr2 dqK_180 dqw_cX6_count_100 1 rfl rfl rfl rfl rfl
theorem dX6_count_104 : decode cX6_count 104 = .ok (.getfield 143, 3) := dqr2 dqK_180 dqw_cX6_count_100 4 rfl rfl rfl rfl rfl
theorem dX6_count_107 : decode cX6_count 107 = .ok (.ireturn, 1) := dqr0 dqK_172 dqw_cX6_count_100 7 rfl rfl
theorem dX6_count_108 : decode cX6_count 108 = .ok (.aload_n 0, 1) := dqr0 dqK_42 dqw_cX6_count_100 8 rfl rfl
theorem dX6_count_109 : decode cX6_count 109 = .ok (.getfield 19, 3) := dqr2 dqK_180 dqw_cX6_count_100 9 rfl rfl rfl rfl rfl
theorem dX6_count_112 : decode cX6_count 112 = .ok (.getfield 153, 3) := dqr2 dqK_180 dqw_cX6_count_100 12 rfl rfl rfl rfl rfl
theorem dX6_count_115 : decode cX6_count 115 = .ok (.ireturn, 1) := dqr0 dqK_172 dqw_cX6_count_100 15 rfl rfl
theorem dX6_count_116 : decode cX6_count 116 = .ok (.aload_n 0, 1) := dqr0 dqK_42 dqw_cX6_count_100 16 rfl rfl
theorem dX6_count_117 : decode cX6_count 117 = .ok (.getfield 10, 3) := dqr2 dqK_180 dqw_cX6_count_100 17 rfl rfl rfl rfl rfl
theorem dX6_count_120 : decode cX6_count 120 = .ok (.invokevirtual 283, 3) := dqr2 dqK_182 dqw_cX6_count_100 20 rfl rfl rfl rfl rfl
theorem dX6_count_123 : decode cX6_count 123 = .ok (.ireturn, 1) := dqr0 dqK_172 dqw_cX6_count_100 23 rfl rfl
theorem dqw_cX6_count_124 : dqLF cX6_count 124 [2, 172] := by decide +kernel
theorem dX6_count_124 : decode cX6_count 124 = .ok (.iconst (-1), 1) := dqr0 dqK_2 dqw_cX6_count_124 0 rfl rfl
theorem dX6_count_125 : decode cX6_count 125 = .ok (.ireturn, 1) := dqr0 dqK_172 dqw_cX6_count_124 1 rfl rfl
theorem dqw_cX6_stockBehind_0 : dqLF cX6_stockBehind 0 [42, 180, 0, 26, 42, 180, 0, 49, 180, 1, 30, 27, 46, 42, 180, 0, 49, 180, 1, 33, 27, 46, 28] := by decide +kernel
theorem dX6_stockBehind_0 : decode cX6_stockBehind 0 = .ok (.aload_n 0, 1) := dqr0 dqK_42 dqw_cX6_stockBehind_0 0 rfl rfl
theorem dX6_stockBehind_1 : decode cX6_stockBehind 1 = .ok (.getfield 26, 3) := dqr2 dqK_180 dqw_cX6_stockBehind_0 1 rfl rfl rfl rfl rfl
theorem dX6_stockBehind_4 : decode cX6_stockBehind 4 = .ok (.aload_n 0, 1) := dqr0 dqK_42 dqw_cX6_stockBehind_0 4 rfl rfl
theorem dX6_stockBehind_5 : decode cX6_stockBehind 5 = .ok (.getfield 49, 3) := dqr2 dqK_180 dqw_cX6_stockBehind_0 5 rfl rfl rfl rfl rfl
theorem dX6_stockBehind_8 : decode cX6_stockBehind 8 = .ok (.getfield 286, 3) := dqr2 dqK_180 dqw_cX6_stockBehind_0 8 rfl rfl rfl rfl rfl
theorem dX6_stockBehind_11 : decode cX6_stockBehind 11 = .ok (.iload_n 1, 1) := dqr0 dqK_27 dqw_cX6_stockBehind_0 11 rfl rfl
theorem dX6_stockBehind_12 : decode cX6_stockBehind 12 = .ok (.iaload, 1) := dqr0 dqK_46 dqw_cX6_stockBehind_0 12 rfl rfl
theorem dX6_stockBehind_13 : decode cX6_stockBehind 13 = .ok (.aload_n 0, 1) := dqr0 dqK_42 dqw_cX6_stockBehind_0 13 rfl rfl
theorem dX6_stockBehind_14 : decode cX6_stockBehind 14 = .ok (.getfield 49, 3) := dqr2 dqK_180 dqw_cX6_stockBehind_0 14 rfl rfl rfl rfl rfl
theorem dX6_stockBehind_17 : decode cX6_stockBehind 17 = .ok (.getfield 289, 3) := dqr2 dqK_180 dqw_cX6_stockBehind_0 17 rfl rfl rfl rfl rfl
theorem dX6_stockBehind_20 : decode cX6_stockBehind 20 = .ok (.iload_n 1, 1) := dqr0 dqK_27 dqw_cX6_stockBehind_0 20 rfl rfl
theorem dX6_stockBehind_21 : decode cX6_stockBehind 21 = .ok (.iaload, 1) := dqr0 dqK_46 dqw_cX6_stockBehind_0 21 rfl rfl
theorem dX6_stockBehind_22 : decode cX6_stockBehind 22 = .ok (.iload_n 2, 1) := dqr0 dqK_28 dqw_cX6_stockBehind_0 22 rfl rfl
theorem dqw_cX6_stockBehind_23 : dqLF cX6_stockBehind 23 [182, 0, 165, 173] := by decide +kernel
theorem dX6_stockBehind_23 : decode cX6_stockBehind 23 = .ok (.invokevirtual 165, 3) := dqr2 dqK_182 dqw_cX6_stockBehind_23 0 rfl rfl rfl rfl rfl
theorem dX6_stockBehind_26 : decode cX6_stockBehind 26 = .ok (.lreturn, 1) := dqr0 dqK_173 dqw_cX6_stockBehind_23 3 rfl rfl
theorem dqw_cX6_takeRecording_0 : dqLF cX6_takeRecording 0 [42, 180, 0, 42, 42, 180, 0, 49, 180, 1, 36, 27, 16, 24, 104, 42, 180, 0, 49, 180, 1, 15, 27, 46] := by decide +kernel
theorem dX6_takeRecording_0 : decode cX6_takeRecording 0 = .ok (.aload_n 0, 1) := dqr0 dqK_42 dqw_cX6_takeRecording_0 0 rfl rfl
theorem dX6_takeRecording_1 : decode cX6_takeRecording 1 = .ok (.getfield 42, 3) := dqr2 dqK_180 dqw_cX6_takeRecording_0 1 rfl rfl rfl rfl rfl
theorem dX6_takeRecording_4 : decode cX6_takeRecording 4 = .ok (.aload_n 0, 1) := dqr0 dqK_42 dqw_cX6_takeRecording_0 4 rfl rfl
theorem dX6_takeRecording_5 : decode cX6_takeRecording 5 = .ok (.getfield 49, 3) := dqr2 dqK_180 dqw_cX6_takeRecording_0 5 rfl rfl rfl rfl rfl
theorem dX6_takeRecording_8 : decode cX6_takeRecording 8 = .ok (.getfield 292, 3) := dqr2 dqK_180 dqw_cX6_takeRecording_0 8 rfl rfl rfl rfl rfl
theorem dX6_takeRecording_11 : decode cX6_takeRecording 11 = .ok (.iload_n 1, 1) := dqr0 dqK_27 dqw_cX6_takeRecording_0 11 rfl rfl
theorem dX6_takeRecording_12 : decode cX6_takeRecording 12 = .ok (.bipush 24, 2) := dqrs1 dqK_16 dqw_cX6_takeRecording_0 12 rfl rfl rfl (by decide)
theorem dX6_takeRecording_14 : decode cX6_takeRecording 14 = .ok (.imul, 1) := dqr0 dqK_104 dqw_cX6_takeRecording_0 14 rfl rfl
theorem dX6_takeRecording_15 : decode cX6_takeRecording 15 = .ok (.aload_n 0, 1) := dqr0 dqK_42 dqw_cX6_takeRecording_0 15 rfl rfl
theorem dX6_takeRecording_16 : decode cX6_takeRecording 16 = .ok (.getfield 49, 3) := dqr2 dqK_180 dqw_cX6_takeRecording_0 16 rfl rfl rfl rfl rfl
theorem dX6_takeRecording_19 : decode cX6_takeRecording 19 = .ok (.getfield 271, 3) := dqr2 dqK_180 dqw_cX6_takeRecording_0 19 rfl rfl rfl rfl rfl
theorem dX6_takeRecording_22 : decode cX6_takeRecording 22 = .ok (.iload_n 1, 1) := dqr0 dqK_27 dqw_cX6_takeRecording_0 22 rfl rfl
theorem dX6_takeRecording_23 : decode cX6_takeRecording 23 = .ok (.iaload, 1) := dqr0 dqK_46 dqw_cX6_takeRecording_0 23 rfl rfl
theorem dqw_cX6_takeRecording_24 : dqLF cX6_takeRecording 24 [42, 27, 28, 182, 1, 4, 182, 0, 234, 177] := by decide +kernel
theorem dX6_takeRecording_24 : decode cX6_takeRecording 24 = .ok (.aload_n 0, 1) := dqr0 dqK_42 dqw_cX6_takeRecording_24 0 rfl rfl
theorem dX6_takeRecording_25 : decode cX6_takeRecording 25 = .ok (.iload_n 1, 1) := dqr0 dqK_27 dqw_cX6_takeRecording_24 1 rfl rfl
theorem dX6_takeRecording_26 : decode cX6_takeRecording 26 = .ok (.iload_n 2, 1) := dqr0 dqK_28 dqw_cX6_takeRecording_24 2 rfl rfl
theorem dX6_takeRecording_27 : decode cX6_takeRecording 27 = .ok (.invokevirtual 260, 3) := dqr2 dqK_182 dqw_cX6_takeRecording_24 3 rfl rfl rfl rfl rfl
theorem dX6_takeRecording_30 : decode cX6_takeRecording 30 = .ok (.invokevirtual 234, 3) := dqr2 dqK_182 dqw_cX6_takeRecording_24 6 rfl rfl rfl rfl rfl
theorem dX6_takeRecording_33 : decode cX6_takeRecording 33 = .ok (.return_, 1) := dqr0 dqK_177 dqw_cX6_takeRecording_24 9 rfl rfl
theorem dqw_cX6_inside_0 : dqLF cX6_inside 0 [26, 27, 161, 0, 12, 26, 28, 163, 0, 7, 4, 167, 0, 4, 3, 172] := by decide +kernel
theorem dX6_inside_0 : decode cX6_inside 0 = .ok (.iload_n 0, 1) := dqr0 dqK_26 dqw_cX6_inside_0 0 rfl rfl
theorem dX6_inside_1 : decode cX6_inside 1 = .ok (.iload_n 1, 1) := dqr0 dqK_27 dqw_cX6_inside_0 1 rfl rfl
theorem dX6_inside_2 : decode cX6_inside 2 = .ok (.if_icmp .lt 12, 3) := dqrs2 dqK_161 dqw_cX6_inside_0 2 rfl rfl rfl rfl (by decide)
theorem dX6_inside_5 : decode cX6_inside 5 = .ok (.iload_n 0, 1) := dqr0 dqK_26 dqw_cX6_inside_0 5 rfl rfl
theorem dX6_inside_6 : decode cX6_inside 6 = .ok (.iload_n 2, 1) := dqr0 dqK_28 dqw_cX6_inside_0 6 rfl rfl
theorem dX6_inside_7 : decode cX6_inside 7 = .ok (.if_icmp .gt 7, 3) := dqrs2 dqK_163 dqw_cX6_inside_0 7 rfl rfl rfl rfl (by decide)
theorem dX6_inside_10 : decode cX6_inside 10 = .ok (.iconst 1, 1) := dqr0 dqK_4 dqw_cX6_inside_0 10 rfl rfl
theorem dX6_inside_11 : decode cX6_inside 11 = .ok (.goto 4, 3) := dqrs2 dqK_167 dqw_cX6_inside_0 11 rfl rfl rfl rfl (by decide)
theorem dX6_inside_14 : decode cX6_inside 14 = .ok (.iconst 0, 1) := dqr0 dqK_3 dqw_cX6_inside_0 14 rfl rfl
theorem dX6_inside_15 : decode cX6_inside 15 = .ok (.ireturn, 1) := dqr0 dqK_172 dqw_cX6_inside_0 15 rfl rfl
theorem dqw_cX6_areBits_0 : dqLF cX6_areBits 0 [26, 155, 0, 14, 26, 4, 27, 120, 162, 0, 7, 4, 167, 0, 4, 3, 172] := by decide +kernel
theorem dX6_areBits_0 : decode cX6_areBits 0 = .ok (.iload_n 0, 1) := dqr0 dqK_26 dqw_cX6_areBits_0 0 rfl rfl
theorem dX6_areBits_1 : decode cX6_areBits 1 = .ok (.ifCond .lt 14, 3) := dqrs2 dqK_155 dqw_cX6_areBits_0 1 rfl rfl rfl rfl (by decide)
theorem dX6_areBits_4 : decode cX6_areBits 4 = .ok (.iload_n 0, 1) := dqr0 dqK_26 dqw_cX6_areBits_0 4 rfl rfl
theorem dX6_areBits_5 : decode cX6_areBits 5 = .ok (.iconst 1, 1) := dqr0 dqK_4 dqw_cX6_areBits_0 5 rfl rfl
theorem dX6_areBits_6 : decode cX6_areBits 6 = .ok (.iload_n 1, 1) := dqr0 dqK_27 dqw_cX6_areBits_0 6 rfl rfl
theorem dX6_areBits_7 : decode cX6_areBits 7 = .ok (.ishl, 1) := dqr0 dqK_120 dqw_cX6_areBits_0 7 rfl rfl
theorem dX6_areBits_8 : decode cX6_areBits 8 = .ok (.if_icmp .ge 7, 3) := dqrs2 dqK_162 dqw_cX6_areBits_0 8 rfl rfl rfl rfl (by decide)
theorem dX6_areBits_11 : decode cX6_areBits 11 = .ok (.iconst 1, 1) := dqr0 dqK_4 dqw_cX6_areBits_0 11 rfl rfl
theorem dX6_areBits_12 : decode cX6_areBits 12 = .ok (.goto 4, 3) := dqrs2 dqK_167 dqw_cX6_areBits_0 12 rfl rfl rfl rfl (by decide)
theorem dX6_areBits_15 : decode cX6_areBits 15 = .ok (.iconst 0, 1) := dqr0 dqK_3 dqw_cX6_areBits_0 15 rfl rfl
theorem dX6_areBits_16 : decode cX6_areBits 16 = .ok (.ireturn, 1) := dqr0 dqK_172 dqw_cX6_areBits_0 16 rfl rfl
theorem dqw_cX6_isYear_0 : dqLF cX6_isYear 0 [26, 3, 17, 3, 231, 184, 0, 61, 172] := by decide +kernel
theorem dX6_isYear_0 : decode cX6_isYear 0 = .ok (.iload_n 0, 1) := dqr0 dqK_26 dqw_cX6_isYear_0 0 rfl rfl
theorem dX6_isYear_1 : decode cX6_isYear 1 = .ok (.iconst 0, 1) := dqr0 dqK_3 dqw_cX6_isYear_0 1 rfl rfl
theorem dX6_isYear_2 : decode cX6_isYear 2 = .ok (.sipush 999, 3) := dqrs2 dqK_17 dqw_cX6_isYear_0 2 rfl rfl rfl rfl (by decide)
theorem dX6_isYear_5 : decode cX6_isYear 5 = .ok (.invokestatic 61, 3) := dqr2 dqK_184 dqw_cX6_isYear_0 5 rfl rfl rfl rfl rfl
theorem dX6_isYear_8 : decode cX6_isYear 8 = .ok (.ireturn, 1) := dqr0 dqK_172 dqw_cX6_isYear_0 8 rfl rfl
theorem dqw_cX6_bit_0 : dqLF cX6_bit 0 [30, 28, 125, 10, 127, 136, 172] := by decide +kernel
theorem dX6_bit_0 : decode cX6_bit 0 = .ok (.lload_n 0, 1) := dqr0 dqK_30 dqw_cX6_bit_0 0 rfl rfl
theorem dX6_bit_1 : decode cX6_bit 1 = .ok (.iload_n 2, 1) := dqr0 dqK_28 dqw_cX6_bit_0 1 rfl rfl
theorem dX6_bit_2 : decode cX6_bit 2 = .ok (.lushr, 1) := dqr0 dqK_125 dqw_cX6_bit_0 2 rfl rfl
theorem dX6_bit_3 : decode cX6_bit 3 = .ok (.lconst 1, 1) := dqr0 dqK_10 dqw_cX6_bit_0 3 rfl rfl
theorem dX6_bit_4 : decode cX6_bit 4 = .ok (.land, 1) := dqr0 dqK_127 dqw_cX6_bit_0 4 rfl rfl
theorem dX6_bit_5 : decode cX6_bit 5 = .ok (.l2i, 1) := dqr0 dqK_136 dqw_cX6_bit_0 5 rfl rfl
theorem dX6_bit_6 : decode cX6_bit 6 = .ok (.ireturn, 1) := dqr0 dqK_172 dqw_cX6_bit_0 6 rfl rfl
theorem dqw_cX6_listed_0 : dqLF cX6_listed 0 [28, 2, 160, 0, 5, 27, 172, 28, 155, 0, 20, 28, 27, 162, 0, 15, 28, 42, 190, 162, 0, 9, 42, 28] := by decide +kernel
theorem dX6_listed_0 : decode cX6_listed 0 = .ok (.iload_n 2, 1) := dqr0 dqK_28 dqw_cX6_listed_0 0 rfl rfl
theorem dX6_listed_1 : decode cX6_listed 1 = .ok (.iconst (-1), 1) := dqr0 dqK_2 dqw_cX6_listed_0 1 rfl rfl
theorem dX6_listed_2 : decode cX6_listed 2 = .ok (.if_icmp .ne 5, 3) := dqrs2 dqK_160 dqw_cX6_listed_0 2 rfl rfl rfl rfl (by decide)
theorem dX6_listed_5 : decode cX6_listed 5 = .ok (.iload_n 1, 1) := dqr0 dqK_27 dqw_cX6_listed_0 5 rfl rfl
theorem dX6_listed_6 : decode cX6_listed 6 = .ok (.ireturn, 1) := dqr0 dqK_172 dqw_cX6_listed_0 6 rfl rfl
theorem dX6_listed_7 : decode cX6_listed 7 = .ok (.iload_n 2, 1) := dqr0 dqK_28 dqw_cX6_listed_0 7 rfl rfl
theorem dX6_listed_8 : decode cX6_listed 8 = .ok (.ifCond .lt 20, 3) := dqrs2 dqK_155 dqw_cX6_listed_0 8 rfl rfl rfl rfl (by decide)
theorem dX6_listed_11 : decode cX6_listed 11 = .ok (.iload_n 2, 1) := dqr0 dqK_28 dqw_cX6_listed_0 11 rfl rfl
theorem dX6_listed_12 : decode cX6_listed 12 = .ok (.iload_n 1, 1) := dqr0 dqK_27 dqw_cX6_listed_0 12 rfl rfl
theorem dX6_listed_13 : decode cX6_listed 13 = .ok (.if_icmp .ge 15, 3) := dqrs2 dqK_162 dqw_cX6_listed_0 13 rfl rfl rfl rfl (by decide)
theorem dX6_listed_16 : decode cX6_listed 16 = .ok (.iload_n 2, 1) := dqr0 dqK_28 dqw_cX6_listed_0 16 rfl rfl
theorem dX6_listed_17 : decode cX6_listed 17 = .ok (.aload_n 0, 1) := dqr0 dqK_42 dqw_cX6_listed_0 17 rfl rfl
theorem dX6_listed_18 : decode cX6_listed 18 = .ok (.arraylength, 1) := dqr0 dqK_190 dqw_cX6_listed_0 18 rfl rfl
theorem dX6_listed_19 : decode cX6_listed 19 = .ok (.if_icmp .ge 9, 3) := dqrs2 dqK_162 dqw_cX6_listed_0 19 rfl rfl rfl rfl (by decide)
theorem dX6_listed_22 : decode cX6_listed 22 = .ok (.aload_n 0, 1) := dqr0 dqK_42 dqw_cX6_listed_0 22 rfl rfl
theorem dX6_listed_23 : decode cX6_listed 23 = .ok (.iload_n 2, 1) := dqr0 dqK_28 dqw_cX6_listed_0 23 rfl rfl
theorem dqw_cX6_listed_24 : dqLF cX6_listed 24 [46, 167, 0, 4, 2, 172] := by decide +kernel
theorem dX6_listed_24 : decode cX6_listed 24 = .ok (.iaload, 1) := dqr0 dqK_46 dqw_cX6_listed_24 0 rfl rfl
theorem dX6_listed_25 : decode cX6_listed 25 = .ok (.goto 4, 3) := dqrs2 dqK_167 dqw_cX6_listed_24 1 rfl rfl rfl rfl (by decide)
theorem dX6_listed_28 : decode cX6_listed 28 = .ok (.iconst (-1), 1) := dqr0 dqK_2 dqw_cX6_listed_24 4 rfl rfl
theorem dX6_listed_29 : decode cX6_listed 29 = .ok (.ireturn, 1) := dqr0 dqK_172 dqw_cX6_listed_24 5 rfl rfl
theorem dqw_cX6_pick_0 : dqLF cX6_pick 0 [28, 62, 3, 54, 4, 21, 4, 16, 40, 162, 0, 29, 30, 21, 4, 184, 0, 115, 4, 160, 0, 13, 29] := by decide +kernel
theorem dX6_pick_0 : decode cX6_pick 0 = .ok (.iload_n 2, 1) := dqr0 dqK_28 dqw_cX6_pick_0 0 rfl rfl
theorem dX6_pick_1 : decode cX6_pick 1 = .ok (.istore_n 3, 1) := dqr0 dqK_62 dqw_cX6_pick_0 1 rfl rfl
theorem dX6_pick_2 : decode cX6_pick 2 = .ok (.iconst 0, 1) := dqr0 dqK_3 dqw_cX6_pick_0 2 rfl rfl
theorem dX6_pick_3 : decode cX6_pick 3 = .ok (.istore 4, 2) := dqr1 dqK_54 dqw_cX6_pick_0 3 rfl rfl rfl
theorem dX6_pick_5 : decode cX6_pick 5 = .ok (.iload 4, 2) := dqr1 dqK_21 dqw_cX6_pick_0 5 rfl rfl rfl
theorem dX6_pick_7 : decode cX6_pick 7 = .ok (.bipush 40, 2) := dqrs1 dqK_16 dqw_cX6_pick_0 7 rfl rfl rfl (by decide)
theorem dX6_pick_9 : decode cX6_pick 9 = .ok (.if_icmp .ge 29, 3) := dqrs2 dqK_162 dqw_cX6_pick_0 9 rfl rfl rfl rfl (by decide)
theorem dX6_pick_12 : decode cX6_pick 12 = .ok (.lload_n 0, 1) := dqr0 dqK_30 dqw_cX6_pick_0 12 rfl rfl
theorem dX6_pick_13 : decode cX6_pick 13 = .ok (.iload 4, 2) := dqr1 dqK_21 dqw_cX6_pick_0 13 rfl rfl rfl
theorem dX6_pick_15 : decode cX6_pick 15 = .ok (.invokestatic 115, 3) := dqr2 dqK_184 dqw_cX6_pick_0 15 rfl rfl rfl rfl rfl
theorem dX6_pick_18 : decode cX6_pick 18 = .ok (.iconst 1, 1) := dqr0 dqK_4 dqw_cX6_pick_0 18 rfl rfl
theorem dX6_pick_19 : decode cX6_pick 19 = .ok (.if_icmp .ne 13, 3) := dqrs2 dqK_160 dqw_cX6_pick_0 19 rfl rfl rfl rfl (by decide)
theorem dX6_pick_22 : decode cX6_pick 22 = .ok (.iload_n 3, 1) := dqr0 dqK_29 dqw_cX6_pick_0 22 rfl rfl
theorem dqw_cX6_pick_23 : dqLF cX6_pick 23 [154, 0, 6, 21, 4, 172, 132, 3, 255, 132, 4, 1, 167, 255, 226, 2, 172] := by decide +kernel
theorem dX6_pick_23 : decode cX6_pick 23 = .ok (.ifCond .ne 6, 3) := dqrs2 dqK_154 dqw_cX6_pick_23 0 rfl rfl rfl rfl (by decide)
theorem dX6_pick_26 : decode cX6_pick 26 = .ok (.iload 4, 2) := dqr1 dqK_21 dqw_cX6_pick_23 3 rfl rfl rfl
theorem dX6_pick_28 : decode cX6_pick 28 = .ok (.ireturn, 1) := dqr0 dqK_172 dqw_cX6_pick_23 5 rfl rfl
theorem dX6_pick_29 : decode cX6_pick 29 = .ok (.iinc 3 (-1), 3) := dqri dqK_132 dqw_cX6_pick_23 6 rfl rfl rfl rfl (by decide)
theorem dX6_pick_32 : decode cX6_pick 32 = .ok (.iinc 4 1, 3) := dqri dqK_132 dqw_cX6_pick_23 9 rfl rfl rfl rfl (by decide)
theorem dX6_pick_35 : decode cX6_pick 35 = .ok (.goto (-30), 3) := dqrs2 dqK_167 dqw_cX6_pick_23 12 rfl rfl rfl rfl (by decide)
theorem dX6_pick_38 : decode cX6_pick 38 = .ok (.iconst (-1), 1) := dqr0 dqK_2 dqw_cX6_pick_23 15 rfl rfl
theorem dX6_pick_39 : decode cX6_pick 39 = .ok (.ireturn, 1) := dqr0 dqK_172 dqw_cX6_pick_23 16 rfl rfl
theorem dqw_cX6_isSlot_0 : dqLF cX6_isSlot 0 [26, 16, 97, 161, 0, 13, 26, 16, 104, 163, 0, 7, 4, 167, 0, 4, 3, 172] := by decide +kernel
theorem dX6_isSlot_0 : decode cX6_isSlot 0 = .ok (.iload_n 0, 1) := dqr0 dqK_26 dqw_cX6_isSlot_0 0 rfl rfl
theorem dX6_isSlot_1 : decode cX6_isSlot 1 = .ok (.bipush 97, 2) := dqrs1 dqK_16 dqw_cX6_isSlot_0 1 rfl rfl rfl (by decide)
theorem dX6_isSlot_3 : decode cX6_isSlot 3 = .ok (.if_icmp .lt 13, 3) := dqrs2 dqK_161 dqw_cX6_isSlot_0 3 rfl rfl rfl rfl (by decide)
theorem dX6_isSlot_6 : decode cX6_isSlot 6 = .ok (.iload_n 0, 1) := dqr0 dqK_26 dqw_cX6_isSlot_0 6 rfl rfl
theorem dX6_isSlot_7 : decode cX6_isSlot 7 = .ok (.bipush 104, 2) := dqrs1 dqK_16 dqw_cX6_isSlot_0 7 rfl rfl rfl (by decide)
theorem dX6_isSlot_9 : decode cX6_isSlot 9 = .ok (.if_icmp .gt 7, 3) := dqrs2 dqK_163 dqw_cX6_isSlot_0 9 rfl rfl rfl rfl (by decide)
theorem dX6_isSlot_12 : decode cX6_isSlot 12 = .ok (.iconst 1, 1) := dqr0 dqK_4 dqw_cX6_isSlot_0 12 rfl rfl
theorem dX6_isSlot_13 : decode cX6_isSlot 13 = .ok (.goto 4, 3) := dqrs2 dqK_167 dqw_cX6_isSlot_0 13 rfl rfl rfl rfl (by decide)
theorem dX6_isSlot_16 : decode cX6_isSlot 16 = .ok (.iconst 0, 1) := dqr0 dqK_3 dqw_cX6_isSlot_0 16 rfl rfl
theorem dX6_isSlot_17 : decode cX6_isSlot 17 = .ok (.ireturn, 1) := dqr0 dqK_172 dqw_cX6_isSlot_0 17 rfl rfl
theorem dqw_cX6_isScene_0 : dqLF cX6_isScene 0 [26, 16, 65, 161, 0, 13, 26, 16, 72, 163, 0, 7, 4, 167, 0, 4, 3, 172] := by decide +kernel
theorem dX6_isScene_0 : decode cX6_isScene 0 = .ok (.iload_n 0, 1) := dqr0 dqK_26 dqw_cX6_isScene_0 0 rfl rfl
theorem dX6_isScene_1 : decode cX6_isScene 1 = .ok (.bipush 65, 2) := dqrs1 dqK_16 dqw_cX6_isScene_0 1 rfl rfl rfl (by decide)
theorem dX6_isScene_3 : decode cX6_isScene 3 = .ok (.if_icmp .lt 13, 3) := dqrs2 dqK_161 dqw_cX6_isScene_0 3 rfl rfl rfl rfl (by decide)
theorem dX6_isScene_6 : decode cX6_isScene 6 = .ok (.iload_n 0, 1) := dqr0 dqK_26 dqw_cX6_isScene_0 6 rfl rfl
theorem dX6_isScene_7 : decode cX6_isScene 7 = .ok (.bipush 72, 2) := dqrs1 dqK_16 dqw_cX6_isScene_0 7 rfl rfl rfl (by decide)
theorem dX6_isScene_9 : decode cX6_isScene 9 = .ok (.if_icmp .gt 7, 3) := dqrs2 dqK_163 dqw_cX6_isScene_0 9 rfl rfl rfl rfl (by decide)
theorem dX6_isScene_12 : decode cX6_isScene 12 = .ok (.iconst 1, 1) := dqr0 dqK_4 dqw_cX6_isScene_0 12 rfl rfl
theorem dX6_isScene_13 : decode cX6_isScene 13 = .ok (.goto 4, 3) := dqrs2 dqK_167 dqw_cX6_isScene_0 13 rfl rfl rfl rfl (by decide)
theorem dX6_isScene_16 : decode cX6_isScene 16 = .ok (.iconst 0, 1) := dqr0 dqK_3 dqw_cX6_isScene_0 16 rfl rfl
theorem dX6_isScene_17 : decode cX6_isScene 17 = .ok (.ireturn, 1) := dqr0 dqK_172 dqw_cX6_isScene_0 17 rfl rfl
end
