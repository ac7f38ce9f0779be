section
set_option maxRecDepth 16384
theorem dqw_cX7_init_0 : dqLF cX7_init 0 [42, 183, 0, 1, 42, 16, 40] := by decide +kernel
theorem dX7_init_0 : decode cX7_init 0 = .ok (.aload_n 0, 1) := dqr0 dqK_42 dqw_cX7_init_0 0 rfl rfl
theorem dX7_init_1 : decode cX7_init 1 = .ok (.invokespecial 1, 3) := dqr2 dqK_183 dqw_cX7_init_0 1 rfl rfl rfl rfl rfl
theorem dX7_init_4 : decode cX7_init 4 = .ok (.aload_n 0, 1) := dqr0 dqK_42 dqw_cX7_init_0 4 rfl rfl
theorem dX7_init_5 : decode cX7_init 5 = .ok (.bipush 40, 2) := dqrs1 dqK_16 dqw_cX7_init_0 5 rfl rfl rfl (by decide)
theorem dX7_init_7 : decode cX7_init 7 = .ok (.newarray .int, 2) := by decide +kernel
theorem dqw_cX7_init_9 : dqLF cX7_init 9 [181, 0, 7, 42, 16, 40] := by decide +kernel
theorem dX7_init_9 : decode cX7_init 9 = .ok (.putfield 7, 3) := dqr2 dqK_181 dqw_cX7_init_9 0 rfl rfl rfl rfl rfl
theorem dX7_init_12 : decode cX7_init 12 = .ok (.aload_n 0, 1) := dqr0 dqK_42 dqw_cX7_init_9 3 rfl rfl
theorem dX7_init_13 : decode cX7_init 13 = .ok (.bipush 40, 2) := dqrs1 dqK_16 dqw_cX7_init_9 4 rfl rfl rfl (by decide)
theorem dX7_init_15 : decode cX7_init 15 = .ok (.newarray .int, 2) := by decide +kernel
theorem dqw_cX7_init_17 : dqLF cX7_init 17 [181, 0, 13, 42, 16, 40] := by decide +kernel
theorem dX7_init_17 : decode cX7_init 17 = .ok (.putfield 13, 3) := dqr2 dqK_181 dqw_cX7_init_17 0 rfl rfl rfl rfl rfl
theorem dX7_init_20 : decode cX7_init 20 = .ok (.aload_n 0, 1) := dqr0 dqK_42 dqw_cX7_init_17 3 rfl rfl
theorem dX7_init_21 : decode cX7_init 21 = .ok (.bipush 40, 2) := dqrs1 dqK_16 dqw_cX7_init_17 4 rfl rfl rfl (by decide)
theorem dX7_init_23 : decode cX7_init 23 = .ok (.newarray .int, 2) := by decide +kernel
theorem dqw_cX7_init_25 : dqLF cX7_init 25 [181, 0, 16, 42, 16, 10] := by decide +kernel
theorem dX7_init_25 : decode cX7_init 25 = .ok (.putfield 16, 3) := dqr2 dqK_181 dqw_cX7_init_25 0 rfl rfl rfl rfl rfl
theorem dX7_init_28 : decode cX7_init 28 = .ok (.aload_n 0, 1) := dqr0 dqK_42 dqw_cX7_init_25 3 rfl rfl
theorem dX7_init_29 : decode cX7_init 29 = .ok (.bipush 10, 2) := dqrs1 dqK_16 dqw_cX7_init_25 4 rfl rfl rfl (by decide)
theorem dX7_init_31 : decode cX7_init 31 = .ok (.newarray .int, 2) := by decide +kernel
theorem dqw_cX7_init_33 : dqLF cX7_init 33 [181, 0, 19, 42, 16, 10] := by decide +kernel
theorem dX7_init_33 : decode cX7_init 33 = .ok (.putfield 19, 3) := dqr2 dqK_181 dqw_cX7_init_33 0 rfl rfl rfl rfl rfl
theorem dX7_init_36 : decode cX7_init 36 = .ok (.aload_n 0, 1) := dqr0 dqK_42 dqw_cX7_init_33 3 rfl rfl
theorem dX7_init_37 : decode cX7_init 37 = .ok (.bipush 10, 2) := dqrs1 dqK_16 dqw_cX7_init_33 4 rfl rfl rfl (by decide)
theorem dX7_init_39 : decode cX7_init 39 = .ok (.newarray .int, 2) := by decide +kernel
theorem dqw_cX7_init_41 : dqLF cX7_init 41 [181, 0, 22, 42, 16, 40] := by decide +kernel
theorem dX7_init_41 : decode cX7_init 41 = .ok (.putfield 22, 3) := dqr2 dqK_181 dqw_cX7_init_41 0 rfl rfl rfl rfl rfl
theorem dX7_init_44 : decode cX7_init 44 = .ok (.aload_n 0, 1) := dqr0 dqK_42 dqw_cX7_init_41 3 rfl rfl
theorem dX7_init_45 : decode cX7_init 45 = .ok (.bipush 40, 2) := dqrs1 dqK_16 dqw_cX7_init_41 4 rfl rfl rfl (by decide)
theorem dX7_init_47 : decode cX7_init 47 = .ok (.newarray .int, 2) := by decide +kernel
theorem dqw_cX7_init_49 : dqLF cX7_init 49 [181, 0, 25, 42, 16, 40] := by decide +kernel
theorem dX7_init_49 : decode cX7_init 49 = .ok (.putfield 25, 3) := dqr2 dqK_181 dqw_cX7_init_49 0 rfl rfl rfl rfl rfl
theorem dX7_init_52 : decode cX7_init 52 = .ok (.aload_n 0, 1) := dqr0 dqK_42 dqw_cX7_init_49 3 rfl rfl
theorem dX7_init_53 : decode cX7_init 53 = .ok (.bipush 40, 2) := dqrs1 dqK_16 dqw_cX7_init_49 4 rfl rfl rfl (by decide)
theorem dX7_init_55 : decode cX7_init 55 = .ok (.newarray .int, 2) := by decide +kernel
theorem dqw_cX7_init_57 : dqLF cX7_init 57 [181, 0, 28, 42, 16, 40] := by decide +kernel
theorem dX7_init_57 : decode cX7_init 57 = .ok (.putfield 28, 3) := dqr2 dqK_181 dqw_cX7_init_57 0 rfl rfl rfl rfl rfl
theorem dX7_init_60 : decode cX7_init 60 = .ok (.aload_n 0, 1) := dqr0 dqK_42 dqw_cX7_init_57 3 rfl rfl
theorem dX7_init_61 : decode cX7_init 61 = .ok (.bipush 40, 2) := dqrs1 dqK_16 dqw_cX7_init_57 4 rfl rfl rfl (by decide)
theorem dX7_init_63 : decode cX7_init 63 = .ok (.newarray .int, 2) := by decide +kernel
theorem dqw_cX7_init_65 : dqLF cX7_init 65 [181, 0, 31, 42, 16, 40] := by decide +kernel
theorem dX7_init_65 : decode cX7_init 65 = .ok (.putfield 31, 3) := dqr2 dqK_181 dqw_cX7_init_65 0 rfl rfl rfl rfl rfl
theorem dX7_init_68 : decode cX7_init 68 = .ok (.aload_n 0, 1) := dqr0 dqK_42 dqw_cX7_init_65 3 rfl rfl
theorem dX7_init_69 : decode cX7_init 69 = .ok (.bipush 40, 2) := dqrs1 dqK_16 dqw_cX7_init_65 4 rfl rfl rfl (by decide)
theorem dX7_init_71 : decode cX7_init 71 = .ok (.newarray .int, 2) := by decide +kernel
theorem dqw_cX7_init_73 : dqLF cX7_init 73 [181, 0, 34, 42, 16, 40] := by decide +kernel
theorem dX7_init_73 : decode cX7_init 73 = .ok (.putfield 34, 3) := dqr2 dqK_181 dqw_cX7_init_73 0 rfl rfl rfl rfl rfl
theorem dX7_init_76 : decode cX7_init 76 = .ok (.aload_n 0, 1) := dqr0 dqK_42 dqw_cX7_init_73 3 rfl rfl
theorem dX7_init_77 : decode cX7_init 77 = .ok (.bipush 40, 2) := dqrs1 dqK_16 dqw_cX7_init_73 4 rfl rfl rfl (by decide)
theorem dX7_init_79 : decode cX7_init 79 = .ok (.newarray .int, 2) := by decide +kernel
theorem dqw_cX7_init_81 : dqLF cX7_init 81 [181, 0, 37, 42, 6] := by decide +kernel
theorem dX7_init_81 : decode cX7_init 81 = .ok (.putfield 37, 3) := dqr2 dqK_181 dqw_cX7_init_81 0 rfl rfl rfl rfl rfl
theorem dX7_init_84 : decode cX7_init 84 = .ok (.aload_n 0, 1) := dqr0 dqK_42 dqw_cX7_init_81 3 rfl rfl
theorem dX7_init_85 : decode cX7_init 85 = .ok (.iconst 3, 1) := dqr0 dqK_6 dqw_cX7_init_81 4 rfl rfl
theorem dX7_init_86 : decode cX7_init 86 = .ok (.newarray .int, 2) := by decide +kernel
theorem dqw_cX7_init_88 : dqLF cX7_init 88 [89, 3, 7, 79, 89, 4, 16, 6, 79, 89, 5, 3, 79, 181, 0, 40, 42, 16, 40] := by decide +kernel
theorem dX7_init_88 : decode cX7_init 88 = .ok (.dup, 1) := dqr0 dqK_89 dqw_cX7_init_88 0 rfl rfl
theorem dX7_init_89 : decode cX7_init 89 = .ok (.iconst 0, 1) := dqr0 dqK_3 dqw_cX7_init_88 1 rfl rfl
theorem dX7_init_90 : decode cX7_init 90 = .ok (.iconst 4, 1) := dqr0 dqK_7 dqw_cX7_init_88 2 rfl rfl
theorem dX7_init_91 : decode cX7_init 91 = .ok (.iastore, 1) := dqr0 dqK_79 dqw_cX7_init_88 3 rfl rfl
theorem dX7_init_92 : decode cX7_init 92 = .ok (.dup, 1) := dqr0 dqK_89 dqw_cX7_init_88 4 rfl rfl
theorem dX7_init_93 : decode cX7_init 93 = .ok (.iconst 1, 1) := dqr0 dqK_4 dqw_cX7_init_88 5 rfl rfl
theorem dX7_init_94 : decode cX7_init 94 = .ok (.bipush 6, 2) := dqrs1 dqK_16 dqw_cX7_init_88 6 rfl rfl rfl (by decide)
theorem dX7_init_96 : decode cX7_init 96 = .ok (.iastore, 1) := dqr0 dqK_79 dqw_cX7_init_88 8 rfl rfl
theorem dX7_init_97 : decode cX7_init 97 = .ok (.dup, 1) := dqr0 dqK_89 dqw_cX7_init_88 9 rfl rfl
theorem dX7_init_98 : decode cX7_init 98 = .ok (.iconst 2, 1) := dqr0 dqK_5 dqw_cX7_init_88 10 rfl rfl
theorem dX7_init_99 : decode cX7_init 99 = .ok (.iconst 0, 1) := dqr0 dqK_3 dqw_cX7_init_88 11 rfl rfl
theorem dX7_init_100 : decode cX7_init 100 = .ok (.iastore, 1) := dqr0 dqK_79 dqw_cX7_init_88 12 rfl rfl
theorem dX7_init_101 : decode cX7_init 101 = .ok (.putfield 40, 3) := dqr2 dqK_181 dqw_cX7_init_88 13 rfl rfl rfl rfl rfl
theorem dX7_init_104 : decode cX7_init 104 = .ok (.aload_n 0, 1) := dqr0 dqK_42 dqw_cX7_init_88 16 rfl rfl
theorem dX7_init_105 : decode cX7_init 105 = .ok (.bipush 40, 2) := dqrs1 dqK_16 dqw_cX7_init_88 17 rfl rfl rfl (by decide)
theorem dX7_init_107 : decode cX7_init 107 = .ok (.newarray .int, 2) := by decide +kernel
theorem dqw_cX7_init_109 : dqLF cX7_init 109 [181, 0, 43, 42, 16, 60] := by decide +kernel
theorem dX7_init_109 : decode cX7_init 109 = .ok (.putfield 43, 3) := dqr2 dqK_181 dqw_cX7_init_109 0 rfl rfl rfl rfl rfl
theorem dX7_init_112 : decode cX7_init 112 = .ok (.aload_n 0, 1) := dqr0 dqK_42 dqw_cX7_init_109 3 rfl rfl
theorem dX7_init_113 : decode cX7_init 113 = .ok (.bipush 60, 2) := dqrs1 dqK_16 dqw_cX7_init_109 4 rfl rfl rfl (by decide)
theorem dX7_init_115 : decode cX7_init 115 = .ok (.newarray .int, 2) := by decide +kernel
theorem dqw_cX7_init_117 : dqLF cX7_init 117 [181, 0, 46, 42, 17, 1, 224] := by decide +kernel
theorem dX7_init_117 : decode cX7_init 117 = .ok (.putfield 46, 3) := dqr2 dqK_181 dqw_cX7_init_117 0 rfl rfl rfl rfl rfl
theorem dX7_init_120 : decode cX7_init 120 = .ok (.aload_n 0, 1) := dqr0 dqK_42 dqw_cX7_init_117 3 rfl rfl
theorem dX7_init_121 : decode cX7_init 121 = .ok (.sipush 480, 3) := dqrs2 dqK_17 dqw_cX7_init_117 4 rfl rfl rfl rfl (by decide)
theorem dX7_init_124 : decode cX7_init 124 = .ok (.newarray .int, 2) := by decide +kernel
theorem dqw_cX7_init_126 : dqLF cX7_init 126 [181, 0, 49, 42, 16, 8] := by decide +kernel
theorem dX7_init_126 : decode cX7_init 126 = .ok (.putfield 49, 3) := dqr2 dqK_181 dqw_cX7_init_126 0 rfl rfl rfl rfl rfl
theorem dX7_init_129 : decode cX7_init 129 = .ok (.aload_n 0, 1) := dqr0 dqK_42 dqw_cX7_init_126 3 rfl rfl
theorem dX7_init_130 : decode cX7_init 130 = .ok (.bipush 8, 2) := dqrs1 dqK_16 dqw_cX7_init_126 4 rfl rfl rfl (by decide)
theorem dX7_init_132 : decode cX7_init 132 = .ok (.newarray .int, 2) := by decide +kernel
theorem dqw_cX7_init_134 : dqLF cX7_init 134 [181, 0, 52, 42, 16, 8] := by decide +kernel
theorem dX7_init_134 : decode cX7_init 134 = .ok (.putfield 52, 3) := dqr2 dqK_181 dqw_cX7_init_134 0 rfl rfl rfl rfl rfl
theorem dX7_init_137 : decode cX7_init 137 = .ok (.aload_n 0, 1) := dqr0 dqK_42 dqw_cX7_init_134 3 rfl rfl
theorem dX7_init_138 : decode cX7_init 138 = .ok (.bipush 8, 2) := dqrs1 dqK_16 dqw_cX7_init_134 4 rfl rfl rfl (by decide)
theorem dX7_init_140 : decode cX7_init 140 = .ok (.newarray .int, 2) := by decide +kernel
theorem dqw_cX7_init_142 : dqLF cX7_init 142 [181, 0, 55, 42, 16, 60] := by decide +kernel
theorem dX7_init_142 : decode cX7_init 142 = .ok (.putfield 55, 3) := dqr2 dqK_181 dqw_cX7_init_142 0 rfl rfl rfl rfl rfl
theorem dX7_init_145 : decode cX7_init 145 = .ok (.aload_n 0, 1) := dqr0 dqK_42 dqw_cX7_init_142 3 rfl rfl
theorem dX7_init_146 : decode cX7_init 146 = .ok (.bipush 60, 2) := dqrs1 dqK_16 dqw_cX7_init_142 4 rfl rfl rfl (by decide)
theorem dX7_init_148 : decode cX7_init 148 = .ok (.newarray .int, 2) := by decide +kernel
theorem dqw_cX7_init_150 : dqLF cX7_init 150 [181, 0, 58, 42, 4, 181, 0, 61, 42, 16, 9] := by decide +kernel
theorem dX7_init_150 : decode cX7_init 150 = .ok (.putfield 58, 3) := dqr2 dqK_181 dqw_cX7_init_150 0 rfl rfl rfl rfl rfl
theorem dX7_init_153 : decode cX7_init 153 = .ok (.aload_n 0, 1) := dqr0 dqK_42 dqw_cX7_init_150 3 rfl rfl
theorem dX7_init_154 : decode cX7_init 154 = .ok (.iconst 1, 1) := dqr0 dqK_4 dqw_cX7_init_150 4 rfl rfl
theorem dX7_init_155 : decode cX7_init 155 = .ok (.putfield 61, 3) := dqr2 dqK_181 dqw_cX7_init_150 5 rfl rfl rfl rfl rfl
theorem dX7_init_158 : decode cX7_init 158 = .ok (.aload_n 0, 1) := dqr0 dqK_42 dqw_cX7_init_150 8 rfl rfl
theorem dX7_init_159 : decode cX7_init 159 = .ok (.bipush 9, 2) := dqrs1 dqK_16 dqw_cX7_init_150 9 rfl rfl rfl (by decide)
theorem dX7_init_161 : decode cX7_init 161 = .ok (.newarray .int, 2) := by decide +kernel
theorem dqw_cX7_init_163 : dqLF cX7_init 163 [181, 0, 65, 42, 16, 9] := by decide +kernel
theorem dX7_init_163 : decode cX7_init 163 = .ok (.putfield 65, 3) := dqr2 dqK_181 dqw_cX7_init_163 0 rfl rfl rfl rfl rfl
theorem dX7_init_166 : decode cX7_init 166 = .ok (.aload_n 0, 1) := dqr0 dqK_42 dqw_cX7_init_163 3 rfl rfl
theorem dX7_init_167 : decode cX7_init 167 = .ok (.bipush 9, 2) := dqrs1 dqK_16 dqw_cX7_init_163 4 rfl rfl rfl (by decide)
theorem dX7_init_169 : decode cX7_init 169 = .ok (.newarray .int, 2) := by decide +kernel
theorem dqw_cX7_init_171 : dqLF cX7_init 171 [181, 0, 68, 42, 17, 1, 244] := by decide +kernel
theorem dX7_init_171 : decode cX7_init 171 = .ok (.putfield 68, 3) := dqr2 dqK_181 dqw_cX7_init_171 0 rfl rfl rfl rfl rfl
theorem dX7_init_174 : decode cX7_init 174 = .ok (.aload_n 0, 1) := dqr0 dqK_42 dqw_cX7_init_171 3 rfl rfl
theorem dX7_init_175 : decode cX7_init 175 = .ok (.sipush 500, 3) := dqrs2 dqK_17 dqw_cX7_init_171 4 rfl rfl rfl rfl (by decide)
theorem dX7_init_178 : decode cX7_init 178 = .ok (.newarray .int, 2) := by decide +kernel
theorem dqw_cX7_init_180 : dqLF cX7_init 180 [181, 0, 71, 42, 17, 1, 244] := by decide +kernel
theorem dX7_init_180 : decode cX7_init 180 = .ok (.putfield 71, 3) := dqr2 dqK_181 dqw_cX7_init_180 0 rfl rfl rfl rfl rfl
theorem dX7_init_183 : decode cX7_init 183 = .ok (.aload_n 0, 1) := dqr0 dqK_42 dqw_cX7_init_180 3 rfl rfl
theorem dX7_init_184 : decode cX7_init 184 = .ok (.sipush 500, 3) := dqrs2 dqK_17 dqw_cX7_init_180 4 rfl rfl rfl rfl (by decide)
theorem dX7_init_187 : decode cX7_init 187 = .ok (.newarray .int, 2) := by decide +kernel
theorem dqw_cX7_init_189 : dqLF cX7_init 189 [181, 0, 74, 42, 16, 40] := by decide +kernel
theorem dX7_init_189 : decode cX7_init 189 = .ok (.putfield 74, 3) := dqr2 dqK_181 dqw_cX7_init_189 0 rfl rfl rfl rfl rfl
theorem dX7_init_192 : decode cX7_init 192 = .ok (.aload_n 0, 1) := dqr0 dqK_42 dqw_cX7_init_189 3 rfl rfl
theorem dX7_init_193 : decode cX7_init 193 = .ok (.bipush 40, 2) := dqrs1 dqK_16 dqw_cX7_init_189 4 rfl rfl rfl (by decide)
theorem dX7_init_195 : decode cX7_init 195 = .ok (.newarray .int, 2) := by decide +kernel
theorem dqw_cX7_init_197 : dqLF cX7_init 197 [181, 0, 77, 42, 16, 40] := by decide +kernel
theorem dX7_init_197 : decode cX7_init 197 = .ok (.putfield 77, 3) := dqr2 dqK_181 dqw_cX7_init_197 0 rfl rfl rfl rfl rfl
theorem dX7_init_200 : decode cX7_init 200 = .ok (.aload_n 0, 1) := dqr0 dqK_42 dqw_cX7_init_197 3 rfl rfl
theorem dX7_init_201 : decode cX7_init 201 = .ok (.bipush 40, 2) := dqrs1 dqK_16 dqw_cX7_init_197 4 rfl rfl rfl (by decide)
theorem dX7_init_203 : decode cX7_init 203 = .ok (.newarray .int, 2) := by decide +kernel
theorem dqw_cX7_init_205 : dqLF cX7_init 205 [181, 0, 80, 42, 17, 19, 136] := by decide +kernel
theorem dX7_init_205 : decode cX7_init 205 = .ok (.putfield 80, 3) := dqr2 dqK_181 dqw_cX7_init_205 0 rfl rfl rfl rfl rfl
theorem dX7_init_208 : decode cX7_init 208 = .ok (.aload_n 0, 1) := dqr0 dqK_42 dqw_cX7_init_205 3 rfl rfl
theorem dX7_init_209 : decode cX7_init 209 = .ok (.sipush 5000, 3) := dqrs2 dqK_17 dqw_cX7_init_205 4 rfl rfl rfl rfl (by decide)
theorem dX7_init_212 : decode cX7_init 212 = .ok (.newarray .int, 2) := by decide +kernel
theorem dqw_cX7_init_214 : dqLF cX7_init 214 [181, 0, 83, 42, 17, 75, 175] := by decide +kernel
theorem dX7_init_214 : decode cX7_init 214 = .ok (.putfield 83, 3) := dqr2 dqK_181 dqw_cX7_init_214 0 rfl rfl rfl rfl rfl
theorem dX7_init_217 : decode cX7_init 217 = .ok (.aload_n 0, 1) := dqr0 dqK_42 dqw_cX7_init_214 3 rfl rfl
theorem dX7_init_218 : decode cX7_init 218 = .ok (.sipush 19375, 3) := dqrs2 dqK_17 dqw_cX7_init_214 4 rfl rfl rfl rfl (by decide)
theorem dX7_init_221 : decode cX7_init 221 = .ok (.newarray .int, 2) := by decide +kernel
theorem dqw_cX7_init_223 : dqLF cX7_init 223 [181, 0, 86, 42, 17, 75, 175] := by decide +kernel
theorem dX7_init_223 : decode cX7_init 223 = .ok (.putfield 86, 3) := dqr2 dqK_181 dqw_cX7_init_223 0 rfl rfl rfl rfl rfl
theorem dX7_init_226 : decode cX7_init 226 = .ok (.aload_n 0, 1) := dqr0 dqK_42 dqw_cX7_init_223 3 rfl rfl
theorem dX7_init_227 : decode cX7_init 227 = .ok (.sipush 19375, 3) := dqrs2 dqK_17 dqw_cX7_init_223 4 rfl rfl rfl rfl (by decide)
theorem dX7_init_230 : decode cX7_init 230 = .ok (.newarray .int, 2) := by decide +kernel
theorem dqw_cX7_init_232 : dqLF cX7_init 232 [181, 0, 89, 42, 17, 2, 113] := by decide +kernel
theorem dX7_init_232 : decode cX7_init 232 = .ok (.putfield 89, 3) := dqr2 dqK_181 dqw_cX7_init_232 0 rfl rfl rfl rfl rfl
theorem dX7_init_235 : decode cX7_init 235 = .ok (.aload_n 0, 1) := dqr0 dqK_42 dqw_cX7_init_232 3 rfl rfl
theorem dX7_init_236 : decode cX7_init 236 = .ok (.sipush 625, 3) := dqrs2 dqK_17 dqw_cX7_init_232 4 rfl rfl rfl rfl (by decide)
theorem dX7_init_239 : decode cX7_init 239 = .ok (.newarray .int, 2) := by decide +kernel
theorem dqw_cX7_init_241 : dqLF cX7_init 241 [181, 0, 92, 42, 17, 2, 113] := by decide +kernel
theorem dX7_init_241 : decode cX7_init 241 = .ok (.putfield 92, 3) := dqr2 dqK_181 dqw_cX7_init_241 0 rfl rfl rfl rfl rfl
theorem dX7_init_244 : decode cX7_init 244 = .ok (.aload_n 0, 1) := dqr0 dqK_42 dqw_cX7_init_241 3 rfl rfl
theorem dX7_init_245 : decode cX7_init 245 = .ok (.sipush 625, 3) := dqrs2 dqK_17 dqw_cX7_init_241 4 rfl rfl rfl rfl (by decide)
theorem dX7_init_248 : decode cX7_init 248 = .ok (.newarray .int, 2) := by decide +kernel
theorem dqw_cX7_init_250 : dqLF cX7_init 250 [181, 0, 95, 42, 17, 2, 113] := by decide +kernel
theorem dX7_init_250 : decode cX7_init 250 = .ok (.putfield 95, 3) := dqr2 dqK_181 dqw_cX7_init_250 0 rfl rfl rfl rfl rfl
theorem dX7_init_253 : decode cX7_init 253 = .ok (.aload_n 0, 1) := dqr0 dqK_42 dqw_cX7_init_250 3 rfl rfl
theorem dX7_init_254 : decode cX7_init 254 = .ok (.sipush 625, 3) := dqrs2 dqK_17 dqw_cX7_init_250 4 rfl rfl rfl rfl (by decide)
theorem dX7_init_257 : decode cX7_init 257 = .ok (.newarray .int, 2) := by decide +kernel
theorem dqw_cX7_init_259 : dqLF cX7_init 259 [181, 0, 98, 42, 16, 24] := by decide +kernel
theorem dX7_init_259 : decode cX7_init 259 = .ok (.putfield 98, 3) := dqr2 dqK_181 dqw_cX7_init_259 0 rfl rfl rfl rfl rfl
theorem dX7_init_262 : decode cX7_init 262 = .ok (.aload_n 0, 1) := dqr0 dqK_42 dqw_cX7_init_259 3 rfl rfl
theorem dX7_init_263 : decode cX7_init 263 = .ok (.bipush 24, 2) := dqrs1 dqK_16 dqw_cX7_init_259 4 rfl rfl rfl (by decide)
theorem dX7_init_265 : decode cX7_init 265 = .ok (.newarray .int, 2) := by decide +kernel
theorem dqw_cX7_init_267 : dqLF cX7_init 267 [181, 0, 101, 42, 16, 24] := by decide +kernel
theorem dX7_init_267 : decode cX7_init 267 = .ok (.putfield 101, 3) := dqr2 dqK_181 dqw_cX7_init_267 0 rfl rfl rfl rfl rfl
theorem dX7_init_270 : decode cX7_init 270 = .ok (.aload_n 0, 1) := dqr0 dqK_42 dqw_cX7_init_267 3 rfl rfl
theorem dX7_init_271 : decode cX7_init 271 = .ok (.bipush 24, 2) := dqrs1 dqK_16 dqw_cX7_init_267 4 rfl rfl rfl (by decide)
theorem dX7_init_273 : decode cX7_init 273 = .ok (.newarray .int, 2) := by decide +kernel
theorem dqw_cX7_init_275 : dqLF cX7_init 275 [181, 0, 104, 42, 16, 8] := by decide +kernel
theorem dX7_init_275 : decode cX7_init 275 = .ok (.putfield 104, 3) := dqr2 dqK_181 dqw_cX7_init_275 0 rfl rfl rfl rfl rfl
theorem dX7_init_278 : decode cX7_init 278 = .ok (.aload_n 0, 1) := dqr0 dqK_42 dqw_cX7_init_275 3 rfl rfl
theorem dX7_init_279 : decode cX7_init 279 = .ok (.bipush 8, 2) := dqrs1 dqK_16 dqw_cX7_init_275 4 rfl rfl rfl (by decide)
theorem dX7_init_281 : decode cX7_init 281 = .ok (.newarray .int, 2) := by decide +kernel
theorem dqw_cX7_init_283 : dqLF cX7_init 283 [181, 0, 107, 42, 16, 8] := by decide +kernel
theorem dX7_init_283 : decode cX7_init 283 = .ok (.putfield 107, 3) := dqr2 dqK_181 dqw_cX7_init_283 0 rfl rfl rfl rfl rfl
theorem dX7_init_286 : decode cX7_init 286 = .ok (.aload_n 0, 1) := dqr0 dqK_42 dqw_cX7_init_283 3 rfl rfl
theorem dX7_init_287 : decode cX7_init 287 = .ok (.bipush 8, 2) := dqrs1 dqK_16 dqw_cX7_init_283 4 rfl rfl rfl (by decide)
theorem dX7_init_289 : decode cX7_init 289 = .ok (.newarray .int, 2) := by decide +kernel
theorem dqw_cX7_init_291 : dqLF cX7_init 291 [181, 0, 110, 42, 17, 0, 200] := by decide +kernel
theorem dX7_init_291 : decode cX7_init 291 = .ok (.putfield 110, 3) := dqr2 dqK_181 dqw_cX7_init_291 0 rfl rfl rfl rfl rfl
theorem dX7_init_294 : decode cX7_init 294 = .ok (.aload_n 0, 1) := dqr0 dqK_42 dqw_cX7_init_291 3 rfl rfl
theorem dX7_init_295 : decode cX7_init 295 = .ok (.sipush 200, 3) := dqrs2 dqK_17 dqw_cX7_init_291 4 rfl rfl rfl rfl (by decide)
theorem dX7_init_298 : decode cX7_init 298 = .ok (.newarray .int, 2) := by decide +kernel
theorem dqw_cX7_init_300 : dqLF cX7_init 300 [181, 0, 113, 42, 17, 0, 200] := by decide +kernel
theorem dX7_init_300 : decode cX7_init 300 = .ok (.putfield 113, 3) := dqr2 dqK_181 dqw_cX7_init_300 0 rfl rfl rfl rfl rfl
theorem dX7_init_303 : decode cX7_init 303 = .ok (.aload_n 0, 1) := dqr0 dqK_42 dqw_cX7_init_300 3 rfl rfl
theorem dX7_init_304 : decode cX7_init 304 = .ok (.sipush 200, 3) := dqrs2 dqK_17 dqw_cX7_init_300 4 rfl rfl rfl rfl (by decide)
theorem dX7_init_307 : decode cX7_init 307 = .ok (.newarray .int, 2) := by decide +kernel
theorem dqw_cX7_init_309 : dqLF cX7_init 309 [181, 0, 116, 42, 17, 0, 200] := by decide +kernel
theorem dX7_init_309 : decode cX7_init 309 = .ok (.putfield 116, 3) := dqr2 dqK_181 dqw_cX7_init_309 0 rfl rfl rfl rfl rfl
theorem dX7_init_312 : decode cX7_init 312 = .ok (.aload_n 0, 1) := dqr0 dqK_42 dqw_cX7_init_309 3 rfl rfl
theorem dX7_init_313 : decode cX7_init 313 = .ok (.sipush 200, 3) := dqrs2 dqK_17 dqw_cX7_init_309 4 rfl rfl rfl rfl (by decide)
theorem dX7_init_316 : decode cX7_init 316 = .ok (.newarray .int, 2) := by decide +kernel
theorem dqw_cX7_init_318 : dqLF cX7_init 318 [181, 0, 119, 42, 17, 0, 200] := by decide +kernel
theorem dX7_init_318 : decode cX7_init 318 = .ok (.putfield 119, 3) := dqr2 dqK_181 dqw_cX7_init_318 0 rfl rfl rfl rfl rfl
theorem dX7_init_321 : decode cX7_init 321 = .ok (.aload_n 0, 1) := dqr0 dqK_42 dqw_cX7_init_318 3 rfl rfl
theorem dX7_init_322 : decode cX7_init 322 = .ok (.sipush 200, 3) := dqrs2 dqK_17 dqw_cX7_init_318 4 rfl rfl rfl rfl (by decide)
theorem dX7_init_325 : decode cX7_init 325 = .ok (.newarray .boolean, 2) := by decide +kernel
theorem dqw_cX7_init_327 : dqLF cX7_init 327 [181, 0, 122, 42, 16, 40] := by decide +kernel
theorem dX7_init_327 : decode cX7_init 327 = .ok (.putfield 122, 3) := dqr2 dqK_181 dqw_cX7_init_327 0 rfl rfl rfl rfl rfl
theorem dX7_init_330 : decode cX7_init 330 = .ok (.aload_n 0, 1) := dqr0 dqK_42 dqw_cX7_init_327 3 rfl rfl
theorem dX7_init_331 : decode cX7_init 331 = .ok (.bipush 40, 2) := dqrs1 dqK_16 dqw_cX7_init_327 4 rfl rfl rfl (by decide)
theorem dX7_init_333 : decode cX7_init 333 = .ok (.newarray .boolean, 2) := by decide +kernel
theorem dqw_cX7_init_335 : dqLF cX7_init 335 [181, 0, 126, 42, 16, 12] := by decide +kernel
theorem dX7_init_335 : decode cX7_init 335 = .ok (.putfield 126, 3) := dqr2 dqK_181 dqw_cX7_init_335 0 rfl rfl rfl rfl rfl
theorem dX7_init_338 : decode cX7_init 338 = .ok (.aload_n 0, 1) := dqr0 dqK_42 dqw_cX7_init_335 3 rfl rfl
theorem dX7_init_339 : decode cX7_init 339 = .ok (.bipush 12, 2) := dqrs1 dqK_16 dqw_cX7_init_335 4 rfl rfl rfl (by decide)
theorem dX7_init_341 : decode cX7_init 341 = .ok (.newarray .int, 2) := by decide +kernel
theorem dqw_cX7_init_343 : dqLF cX7_init 343 [181, 0, 129, 42, 16, 12] := by decide +kernel
theorem dX7_init_343 : decode cX7_init 343 = .ok (.putfield 129, 3) := dqr2 dqK_181 dqw_cX7_init_343 0 rfl rfl rfl rfl rfl
theorem dX7_init_346 : decode cX7_init 346 = .ok (.aload_n 0, 1) := dqr0 dqK_42 dqw_cX7_init_343 3 rfl rfl
theorem dX7_init_347 : decode cX7_init 347 = .ok (.bipush 12, 2) := dqrs1 dqK_16 dqw_cX7_init_343 4 rfl rfl rfl (by decide)
theorem dX7_init_349 : decode cX7_init 349 = .ok (.newarray .int, 2) := by decide +kernel
theorem dqw_cX7_init_351 : dqLF cX7_init 351 [181, 0, 132, 42, 16, 12] := by decide +kernel
theorem dX7_init_351 : decode cX7_init 351 = .ok (.putfield 132, 3) := dqr2 dqK_181 dqw_cX7_init_351 0 rfl rfl rfl rfl rfl
theorem dX7_init_354 : decode cX7_init 354 = .ok (.aload_n 0, 1) := dqr0 dqK_42 dqw_cX7_init_351 3 rfl rfl
theorem dX7_init_355 : decode cX7_init 355 = .ok (.bipush 12, 2) := dqrs1 dqK_16 dqw_cX7_init_351 4 rfl rfl rfl (by decide)
theorem dX7_init_357 : decode cX7_init 357 = .ok (.newarray .int, 2) := by decide +kernel
theorem dqw_cX7_init_359 : dqLF cX7_init 359 [181, 0, 135, 42, 16, 12] := by decide +kernel
theorem dX7_init_359 : decode cX7_init 359 = .ok (.putfield 135, 3) := dqr2 dqK_181 dqw_cX7_init_359 0 rfl rfl rfl rfl rfl
theorem dX7_init_362 : decode cX7_init 362 = .ok (.aload_n 0, 1) := dqr0 dqK_42 dqw_cX7_init_359 3 rfl rfl
theorem dX7_init_363 : decode cX7_init 363 = .ok (.bipush 12, 2) := dqrs1 dqK_16 dqw_cX7_init_359 4 rfl rfl rfl (by decide)
theorem dX7_init_365 : decode cX7_init 365 = .ok (.newarray .int, 2) := by decide +kernel
theorem dqw_cX7_init_367 : dqLF cX7_init 367 [181, 0, 138, 42, 17, 1, 32] := by decide +kernel
theorem dX7_init_367 : decode cX7_init 367 = .ok (.putfield 138, 3) := dqr2 dqK_181 dqw_cX7_init_367 0 rfl rfl rfl rfl rfl
theorem dX7_init_370 : decode cX7_init 370 = .ok (.aload_n 0, 1) := dqr0 dqK_42 dqw_cX7_init_367 3 rfl rfl
theorem dX7_init_371 : decode cX7_init 371 = .ok (.sipush 288, 3) := dqrs2 dqK_17 dqw_cX7_init_367 4 rfl rfl rfl rfl (by decide)
theorem dX7_init_374 : decode cX7_init 374 = .ok (.newarray .int, 2) := by decide +kernel
theorem dqw_cX7_init_376 : dqLF cX7_init 376 [181, 0, 141, 3, 60, 27, 16, 10, 162, 0, 16, 42, 180, 0, 19, 27, 4, 79, 132, 1, 1, 167, 255, 240] := by decide +kernel
theorem dX7_init_376 : decode cX7_init 376 = .ok (.putfield 141, 3) := dqr2 dqK_181 dqw_cX7_init_376 0 rfl rfl rfl rfl rfl
theorem dX7_init_379 : decode cX7_init 379 = .ok (.iconst 0, 1) := dqr0 dqK_3 dqw_cX7_init_376 3 rfl rfl
theorem dX7_init_380 : decode cX7_init 380 = .ok (.istore_n 1, 1) := dqr0 dqK_60 dqw_cX7_init_376 4 rfl rfl
theorem dX7_init_381 : decode cX7_init 381 = .ok (.iload_n 1, 1) := dqr0 dqK_27 dqw_cX7_init_376 5 rfl rfl
theorem dX7_init_382 : decode cX7_init 382 = .ok (.bipush 10, 2) := dqrs1 dqK_16 dqw_cX7_init_376 6 rfl rfl rfl (by decide)
theorem dX7_init_384 : decode cX7_init 384 = .ok (.if_icmp .ge 16, 3) := dqrs2 dqK_162 dqw_cX7_init_376 8 rfl rfl rfl rfl (by decide)
theorem dX7_init_387 : decode cX7_init 387 = .ok (.aload_n 0, 1) := dqr0 dqK_42 dqw_cX7_init_376 11 rfl rfl
theorem dX7_init_388 : decode cX7_init 388 = .ok (.getfield 19, 3) := dqr2 dqK_180 dqw_cX7_init_376 12 rfl rfl rfl rfl rfl
theorem dX7_init_391 : decode cX7_init 391 = .ok (.iload_n 1, 1) := dqr0 dqK_27 dqw_cX7_init_376 15 rfl rfl
theorem dX7_init_392 : decode cX7_init 392 = .ok (.iconst 1, 1) := dqr0 dqK_4 dqw_cX7_init_376 16 rfl rfl
theorem dX7_init_393 : decode cX7_init 393 = .ok (.iastore, 1) := dqr0 dqK_79 dqw_cX7_init_376 17 rfl rfl
theorem dX7_init_394 : decode cX7_init 394 = .ok (.iinc 1 1, 3) := dqri dqK_132 dqw_cX7_init_376 18 rfl rfl rfl rfl (by decide)
theorem dX7_init_397 : decode cX7_init 397 = .ok (.goto (-16), 3) := dqrs2 dqK_167 dqw_cX7_init_376 21 rfl rfl rfl rfl (by decide)
theorem dqw_cX7_init_400 : dqLF cX7_init 400 [177] := by decide +kernel
theorem dX7_init_400 : decode cX7_init 400 = .ok (.return_, 1) := dqr0 dqK_177 dqw_cX7_init_400 0 rfl rfl
theorem dqw_cX7_isIn_0 : dqLF cX7_isIn 0 [30, 32, 148, 155, 0, 14, 30, 22, 4, 148, 157, 0, 7, 4, 167, 0, 4, 3, 172] := by decide +kernel
theorem dX7_isIn_0 : decode cX7_isIn 0 = .ok (.lload_n 0, 1) := dqr0 dqK_30 dqw_cX7_isIn_0 0 rfl rfl
theorem dX7_isIn_1 : decode cX7_isIn 1 = .ok (.lload_n 2, 1) := dqr0 dqK_32 dqw_cX7_isIn_0 1 rfl rfl
theorem dX7_isIn_2 : decode cX7_isIn 2 = .ok (.lcmp, 1) := dqr0 dqK_148 dqw_cX7_isIn_0 2 rfl rfl
theorem dX7_isIn_3 : decode cX7_isIn 3 = .ok (.ifCond .lt 14, 3) := dqrs2 dqK_155 dqw_cX7_isIn_0 3 rfl rfl rfl rfl (by decide)
theorem dX7_isIn_6 : decode cX7_isIn 6 = .ok (.lload_n 0, 1) := dqr0 dqK_30 dqw_cX7_isIn_0 6 rfl rfl
theorem dX7_isIn_7 : decode cX7_isIn 7 = .ok (.lload 4, 2) := dqr1 dqK_22 dqw_cX7_isIn_0 7 rfl rfl rfl
theorem dX7_isIn_9 : decode cX7_isIn 9 = .ok (.lcmp, 1) := dqr0 dqK_148 dqw_cX7_isIn_0 9 rfl rfl
theorem dX7_isIn_10 : decode cX7_isIn 10 = .ok (.ifCond .gt 7, 3) := dqrs2 dqK_157 dqw_cX7_isIn_0 10 rfl rfl rfl rfl (by decide)
theorem dX7_isIn_13 : decode cX7_isIn 13 = .ok (.iconst 1, 1) := dqr0 dqK_4 dqw_cX7_isIn_0 13 rfl rfl
theorem dX7_isIn_14 : decode cX7_isIn 14 = .ok (.goto 4, 3) := dqrs2 dqK_167 dqw_cX7_isIn_0 14 rfl rfl rfl rfl (by decide)
theorem dX7_isIn_17 : decode cX7_isIn 17 = .ok (.iconst 0, 1) := dqr0 dqK_3 dqw_cX7_isIn_0 17 rfl rfl
theorem dX7_isIn_18 : decode cX7_isIn 18 = .ok (.ireturn, 1) := dqr0 dqK_172 dqw_cX7_isIn_0 18 rfl rfl
theorem dqw_cX7_isHalf_0 : dqLF cX7_isHalf 0 [27, 155, 0, 15, 27, 42, 180, 0, 144, 162, 0, 7, 4, 167, 0, 4, 3, 172] := by decide +kernel
theorem dX7_isHalf_0 : decode cX7_isHalf 0 = .ok (.iload_n 1, 1) := dqr0 dqK_27 dqw_cX7_isHalf_0 0 rfl rfl
theorem dX7_isHalf_1 : decode cX7_isHalf 1 = .ok (.ifCond .lt 15, 3) := dqrs2 dqK_155 dqw_cX7_isHalf_0 1 rfl rfl rfl rfl (by decide)
theorem dX7_isHalf_4 : decode cX7_isHalf 4 = .ok (.iload_n 1, 1) := dqr0 dqK_27 dqw_cX7_isHalf_0 4 rfl rfl
theorem dX7_isHalf_5 : decode cX7_isHalf 5 = .ok (.aload_n 0, 1) := dqr0 dqK_42 dqw_cX7_isHalf_0 5 rfl rfl
theorem dX7_isHalf_6 : decode cX7_isHalf 6 = .ok (.getfield 144, 3) := dqr2 dqK_180 dqw_cX7_isHalf_0 6 rfl rfl rfl rfl rfl
theorem dX7_isHalf_9 : decode cX7_isHalf 9 = .ok (.if_icmp .ge 7, 3) := dqrs2 dqK_162 dqw_cX7_isHalf_0 9 rfl rfl rfl rfl (by decide)
theorem dX7_isHalf_12 : decode cX7_isHalf 12 = .ok (.iconst 1, 1) := dqr0 dqK_4 dqw_cX7_isHalf_0 12 rfl rfl
theorem dX7_isHalf_13 : decode cX7_isHalf 13 = .ok (.goto 4, 3) := dqrs2 dqK_167 dqw_cX7_isHalf_0 13 rfl rfl rfl rfl (by decide)
theorem dX7_isHalf_16 : decode cX7_isHalf 16 = .ok (.iconst 0, 1) := dqr0 dqK_3 dqw_cX7_isHalf_0 16 rfl rfl
theorem dX7_isHalf_17 : decode cX7_isHalf 17 = .ok (.ireturn, 1) := dqr0 dqK_172 dqw_cX7_isHalf_0 17 rfl rfl
theorem dqw_cX7_isLine_0 : dqLF cX7_isLine 0 [27, 155, 0, 15, 27, 42, 180, 0, 147, 162, 0, 7, 4, 167, 0, 4, 3, 172] := by decide +kernel
theorem dX7_isLine_0 : decode cX7_isLine 0 = .ok (.iload_n 1, 1) := dqr0 dqK_27 dqw_cX7_isLine_0 0 rfl rfl
theorem dX7_isLine_1 : decode cX7_isLine 1 = .ok (.ifCond .lt 15, 3) := dqrs2 dqK_155 dqw_cX7_isLine_0 1 rfl rfl rfl rfl (by decide)
theorem dX7_isLine_4 : decode cX7_isLine 4 = .ok (.iload_n 1, 1) := dqr0 dqK_27 dqw_cX7_isLine_0 4 rfl rfl
theorem dX7_isLine_5 : decode cX7_isLine 5 = .ok (.aload_n 0, 1) := dqr0 dqK_42 dqw_cX7_isLine_0 5 rfl rfl
theorem dX7_isLine_6 : decode cX7_isLine 6 = .ok (.getfield 147, 3) := dqr2 dqK_180 dqw_cX7_isLine_0 6 rfl rfl rfl rfl rfl
theorem dX7_isLine_9 : decode cX7_isLine 9 = .ok (.if_icmp .ge 7, 3) := dqrs2 dqK_162 dqw_cX7_isLine_0 9 rfl rfl rfl rfl (by decide)
theorem dX7_isLine_12 : decode cX7_isLine 12 = .ok (.iconst 1, 1) := dqr0 dqK_4 dqw_cX7_isLine_0 12 rfl rfl
theorem dX7_isLine_13 : decode cX7_isLine 13 = .ok (.goto 4, 3) := dqrs2 dqK_167 dqw_cX7_isLine_0 13 rfl rfl rfl rfl (by decide)
theorem dX7_isLine_16 : decode cX7_isLine 16 = .ok (.iconst 0, 1) := dqr0 dqK_3 dqw_cX7_isLine_0 16 rfl rfl
theorem dX7_isLine_17 : decode cX7_isLine 17 = .ok (.ireturn, 1) := dqr0 dqK_172 dqw_cX7_isLine_0 17 rfl rfl
theorem dqw_cX7_isName_0 : dqLF cX7_isName 0 [26, 155, 0, 13, 26, 16, 10, 162, 0, 7, 4, 167, 0, 4, 3, 172] := by decide +kernel
theorem dX7_isName_0 : decode cX7_isName 0 = .ok (.iload_n 0, 1) := dqr0 dqK_26 dqw_cX7_isName_0 0 rfl rfl
theorem dX7_isName_1 : decode cX7_isName 1 = .ok (.ifCond .lt 13, 3) := dqrs2 dqK_155 dqw_cX7_isName_0 1 rfl rfl rfl rfl (by decide)
theorem dX7_isName_4 : decode cX7_isName 4 = .ok (.iload_n 0, 1) := dqr0 dqK_26 dqw_cX7_isName_0 4 rfl rfl
theorem dX7_isName_5 : decode cX7_isName 5 = .ok (.bipush 10, 2) := dqrs1 dqK_16 dqw_cX7_isName_0 5 rfl rfl rfl (by decide)
theorem dX7_isName_7 : decode cX7_isName 7 = .ok (.if_icmp .ge 7, 3) := dqrs2 dqK_162 dqw_cX7_isName_0 7 rfl rfl rfl rfl (by decide)
theorem dX7_isName_10 : decode cX7_isName 10 = .ok (.iconst 1, 1) := dqr0 dqK_4 dqw_cX7_isName_0 10 rfl rfl
theorem dX7_isName_11 : decode cX7_isName 11 = .ok (.goto 4, 3) := dqrs2 dqK_167 dqw_cX7_isName_0 11 rfl rfl rfl rfl (by decide)
theorem dX7_isName_14 : decode cX7_isName 14 = .ok (.iconst 0, 1) := dqr0 dqK_3 dqw_cX7_isName_0 14 rfl rfl
theorem dX7_isName_15 : decode cX7_isName 15 = .ok (.ireturn, 1) := dqr0 dqK_172 dqw_cX7_isName_0 15 rfl rfl
theorem dqw_cX7_half_0 : dqLF cX7_half 0 [27, 133, 10, 20, 0, 150, 184, 0, 152, 153, 0, 31, 28, 133, 9, 4, 27, 120, 4, 100, 133, 184, 0, 152] := by decide +kernel
theorem dX7_half_0 : decode cX7_half 0 = .ok (.iload_n 1, 1) := dqr0 dqK_27 dqw_cX7_half_0 0 rfl rfl
theorem dX7_half_1 : decode cX7_half 1 = .ok (.i2l, 1) := dqr0 dqK_133 dqw_cX7_half_0 1 rfl rfl
theorem dX7_half_2 : decode cX7_half 2 = .ok (.lconst 1, 1) := dqr0 dqK_10 dqw_cX7_half_0 2 rfl rfl
theorem dX7_half_3 : decode cX7_half 3 = .ok (.ldc2_w 150, 3) := dqr2 dqK_20 dqw_cX7_half_0 3 rfl rfl rfl rfl rfl
theorem dX7_half_6 : decode cX7_half 6 = .ok (.invokestatic 152, 3) := dqr2 dqK_184 dqw_cX7_half_0 6 rfl rfl rfl rfl rfl
theorem dX7_half_9 : decode cX7_half 9 = .ok (.ifCond .eq 31, 3) := dqrs2 dqK_153 dqw_cX7_half_0 9 rfl rfl rfl rfl (by decide)
theorem dX7_half_12 : decode cX7_half 12 = .ok (.iload_n 2, 1) := dqr0 dqK_28 dqw_cX7_half_0 12 rfl rfl
theorem dX7_half_13 : decode cX7_half 13 = .ok (.i2l, 1) := dqr0 dqK_133 dqw_cX7_half_0 13 rfl rfl
theorem dX7_half_14 : decode cX7_half 14 = .ok (.lconst 0, 1) := dqr0 dqK_9 dqw_cX7_half_0 14 rfl rfl
theorem dX7_half_15 : decode cX7_half 15 = .ok (.iconst 1, 1) := dqr0 dqK_4 dqw_cX7_half_0 15 rfl rfl
theorem dX7_half_16 : decode cX7_half 16 = .ok (.iload_n 1, 1) := dqr0 dqK_27 dqw_cX7_half_0 16 rfl rfl
theorem dX7_half_17 : decode cX7_half 17 = .ok (.ishl, 1) := dqr0 dqK_120 dqw_cX7_half_0 17 rfl rfl
theorem dX7_half_18 : decode cX7_half 18 = .ok (.iconst 1, 1) := dqr0 dqK_4 dqw_cX7_half_0 18 rfl rfl
theorem dX7_half_19 : decode cX7_half 19 = .ok (.isub, 1) := dqr0 dqK_100 dqw_cX7_half_0 19 rfl rfl
theorem dX7_half_20 : decode cX7_half 20 = .ok (.i2l, 1) := dqr0 dqK_133 dqw_cX7_half_0 20 rfl rfl
theorem dX7_half_21 : decode cX7_half 21 = .ok (.invokestatic 152, 3) := dqr2 dqK_184 dqw_cX7_half_0 21 rfl rfl rfl rfl rfl
theorem dqw_cX7_half_24 : dqLF cX7_half 24 [153, 0, 16, 29, 133, 20, 0, 156, 27, 133, 184, 0, 152, 154, 0, 6, 16, 254, 172, 42, 180, 0, 144] := by decide +kernel
theorem dX7_half_24 : decode cX7_half 24 = .ok (.ifCond .eq 16, 3) := dqrs2 dqK_153 dqw_cX7_half_24 0 rfl rfl rfl rfl (by decide)
theorem dX7_half_27 : decode cX7_half 27 = .ok (.iload_n 3, 1) := dqr0 dqK_29 dqw_cX7_half_24 3 rfl rfl
theorem dX7_half_28 : decode cX7_half 28 = .ok (.i2l, 1) := dqr0 dqK_133 dqw_cX7_half_24 4 rfl rfl
theorem dX7_half_29 : decode cX7_half 29 = .ok (.ldc2_w 156, 3) := dqr2 dqK_20 dqw_cX7_half_24 5 rfl rfl rfl rfl rfl
theorem dX7_half_32 : decode cX7_half 32 = .ok (.iload_n 1, 1) := dqr0 dqK_27 dqw_cX7_half_24 8 rfl rfl
theorem dX7_half_33 : decode cX7_half 33 = .ok (.i2l, 1) := dqr0 dqK_133 dqw_cX7_half_24 9 rfl rfl
theorem dX7_half_34 : decode cX7_half 34 = .ok (.invokestatic 152, 3) := dqr2 dqK_184 dqw_cX7_half_24 10 rfl rfl rfl rfl rfl
theorem dX7_half_37 : decode cX7_half 37 = .ok (.ifCond .ne 6, 3) := dqrs2 dqK_154 dqw_cX7_half_24 13 rfl rfl rfl rfl (by decide)
theorem dX7_half_40 : decode cX7_half 40 = .ok (.bipush (-2), 2) := dqrs1 dqK_16 dqw_cX7_half_24 16 rfl rfl rfl (by decide)
theorem dX7_half_42 : decode cX7_half 42 = .ok (.ireturn, 1) := dqr0 dqK_172 dqw_cX7_half_24 18 rfl rfl
theorem dX7_half_43 : decode cX7_half 43 = .ok (.aload_n 0, 1) := dqr0 dqK_42 dqw_cX7_half_24 19 rfl rfl
theorem dX7_half_44 : decode cX7_half 44 = .ok (.getfield 144, 3) := dqr2 dqK_180 dqw_cX7_half_24 20 rfl rfl rfl rfl rfl
theorem dqw_cX7_half_47 : dqLF cX7_half 47 [16, 40, 160, 0, 6, 16, 252, 172, 42, 180, 0, 7, 42, 180, 0, 144, 27, 79, 42, 180, 0, 13, 42] := by decide +kernel
theorem dX7_half_47 : decode cX7_half 47 = .ok (.bipush 40, 2) := dqrs1 dqK_16 dqw_cX7_half_47 0 rfl rfl rfl (by decide)
theorem dX7_half_49 : decode cX7_half 49 = .ok (.if_icmp .ne 6, 3) := dqrs2 dqK_160 dqw_cX7_half_47 2 rfl rfl rfl rfl (by decide)
theorem dX7_half_52 : decode cX7_half 52 = .ok (.bipush (-4), 2) := dqrs1 dqK_16 dqw_cX7_half_47 5 rfl rfl rfl (by decide)
theorem dX7_half_54 : decode cX7_half 54 = .ok (.ireturn, 1) := dqr0 dqK_172 dqw_cX7_half_47 7 rfl rfl
theorem dX7_half_55 : decode cX7_half 55 = .ok (.aload_n 0, 1) := dqr0 dqK_42 dqw_cX7_half_47 8 rfl rfl
theorem dX7_half_56 : decode cX7_half 56 = .ok (.getfield 7, 3) := dqr2 dqK_180 dqw_cX7_half_47 9 rfl rfl rfl rfl rfl
theorem dX7_half_59 : decode cX7_half 59 = .ok (.aload_n 0, 1) := dqr0 dqK_42 dqw_cX7_half_47 12 rfl rfl
theorem dX7_half_60 : decode cX7_half 60 = .ok (.getfield 144, 3) := dqr2 dqK_180 dqw_cX7_half_47 13 rfl rfl rfl rfl rfl
theorem dX7_half_63 : decode cX7_half 63 = .ok (.iload_n 1, 1) := dqr0 dqK_27 dqw_cX7_half_47 16 rfl rfl
theorem dX7_half_64 : decode cX7_half 64 = .ok (.iastore, 1) := dqr0 dqK_79 dqw_cX7_half_47 17 rfl rfl
theorem dX7_half_65 : decode cX7_half 65 = .ok (.aload_n 0, 1) := dqr0 dqK_42 dqw_cX7_half_47 18 rfl rfl
theorem dX7_half_66 : decode cX7_half 66 = .ok (.getfield 13, 3) := dqr2 dqK_180 dqw_cX7_half_47 19 rfl rfl rfl rfl rfl
theorem dX7_half_69 : decode cX7_half 69 = .ok (.aload_n 0, 1) := dqr0 dqK_42 dqw_cX7_half_47 22 rfl rfl
theorem dqw_cX7_half_70 : dqLF cX7_half 70 [180, 0, 144, 28, 79, 42, 180, 0, 16, 42, 180, 0, 144, 29, 79, 42, 89, 180, 0, 144, 4, 96] := by decide +kernel
theorem dX7_half_70 : decode cX7_half 70 = .ok (.getfield 144, 3) := dqr2 dqK_180 dqw_cX7_half_70 0 rfl rfl rfl rfl rfl
theorem dX7_half_73 : decode cX7_half 73 = .ok (.iload_n 2, 1) := dqr0 dqK_28 dqw_cX7_half_70 3 rfl rfl
theorem dX7_half_74 : decode cX7_half 74 = .ok (.iastore, 1) := dqr0 dqK_79 dqw_cX7_half_70 4 rfl rfl
theorem dX7_half_75 : decode cX7_half 75 = .ok (.aload_n 0, 1) := dqr0 dqK_42 dqw_cX7_half_70 5 rfl rfl
theorem dX7_half_76 : decode cX7_half 76 = .ok (.getfield 16, 3) := dqr2 dqK_180 dqw_cX7_half_70 6 rfl rfl rfl rfl rfl
theorem dX7_half_79 : decode cX7_half 79 = .ok (.aload_n 0, 1) := dqr0 dqK_42 dqw_cX7_half_70 9 rfl rfl
theorem dX7_half_80 : decode cX7_half 80 = .ok (.getfield 144, 3) := dqr2 dqK_180 dqw_cX7_half_70 10 rfl rfl rfl rfl rfl
theorem dX7_half_83 : decode cX7_half 83 = .ok (.iload_n 3, 1) := dqr0 dqK_29 dqw_cX7_half_70 13 rfl rfl
theorem dX7_half_84 : decode cX7_half 84 = .ok (.iastore, 1) := dqr0 dqK_79 dqw_cX7_half_70 14 rfl rfl
theorem dX7_half_85 : decode cX7_half 85 = .ok (.aload_n 0, 1) := dqr0 dqK_42 dqw_cX7_half_70 15 rfl rfl
theorem dX7_half_86 : decode cX7_half 86 = .ok (.dup, 1) := dqr0 dqK_89 dqw_cX7_half_70 16 rfl rfl
theorem dX7_half_87 : decode cX7_half 87 = .ok (.getfield 144, 3) := dqr2 dqK_180 dqw_cX7_half_70 17 rfl rfl rfl rfl rfl
theorem dX7_half_90 : decode cX7_half 90 = .ok (.iconst 1, 1) := dqr0 dqK_4 dqw_cX7_half_70 20 rfl rfl
theorem dX7_half_91 : decode cX7_half 91 = .ok (.iadd, 1) := dqr0 dqK_96 dqw_cX7_half_70 21 rfl rfl
theorem dqw_cX7_half_92 : dqLF cX7_half 92 [181, 0, 144, 42, 180, 0, 144, 4, 100, 172] := by decide +kernel
theorem dX7_half_92 : decode cX7_half 92 = .ok (.putfield 144, 3) := dqr2 dqK_181 dqw_cX7_half_92 0 rfl rfl rfl rfl rfl
theorem dX7_half_95 : decode cX7_half 95 = .ok (.aload_n 0, 1) := dqr0 dqK_42 dqw_cX7_half_92 3 rfl rfl
theorem dX7_half_96 : decode cX7_half 96 = .ok (.getfield 144, 3) := dqr2 dqK_180 dqw_cX7_half_92 4 rfl rfl rfl rfl rfl
theorem dX7_half_99 : decode cX7_half 99 = .ok (.iconst 1, 1) := dqr0 dqK_4 dqw_cX7_half_92 7 rfl rfl
theorem dX7_half_100 : decode cX7_half 100 = .ok (.isub, 1) := dqr0 dqK_100 dqw_cX7_half_92 8 rfl rfl
theorem dX7_half_101 : decode cX7_half 101 = .ok (.ireturn, 1) := dqr0 dqK_172 dqw_cX7_half_92 9 rfl rfl
theorem dqw_cX7_name_0 : dqLF cX7_name 0 [27, 184, 0, 158, 154, 0, 5, 2, 172, 28, 133, 10, 20, 0, 162, 184, 0, 152, 153, 0, 18, 29, 133, 9] := by decide +kernel
theorem dX7_name_0 : decode cX7_name 0 = .ok (.iload_n 1, 1) := dqr0 dqK_27 dqw_cX7_name_0 0 rfl rfl
theorem dX7_name_1 : decode cX7_name 1 = .ok (.invokestatic 158, 3) := dqr2 dqK_184 dqw_cX7_name_0 1 rfl rfl rfl rfl rfl
theorem dX7_name_4 : decode cX7_name 4 = .ok (.ifCond .ne 5, 3) := dqrs2 dqK_154 dqw_cX7_name_0 4 rfl rfl rfl rfl (by decide)
theorem dX7_name_7 : decode cX7_name 7 = .ok (.iconst (-1), 1) := dqr0 dqK_2 dqw_cX7_name_0 7 rfl rfl
theorem dX7_name_8 : decode cX7_name 8 = .ok (.ireturn, 1) := dqr0 dqK_172 dqw_cX7_name_0 8 rfl rfl
theorem dX7_name_9 : decode cX7_name 9 = .ok (.iload_n 2, 1) := dqr0 dqK_28 dqw_cX7_name_0 9 rfl rfl
theorem dX7_name_10 : decode cX7_name 10 = .ok (.i2l, 1) := dqr0 dqK_133 dqw_cX7_name_0 10 rfl rfl
theorem dX7_name_11 : decode cX7_name 11 = .ok (.lconst 1, 1) := dqr0 dqK_10 dqw_cX7_name_0 11 rfl rfl
theorem dX7_name_12 : decode cX7_name 12 = .ok (.ldc2_w 162, 3) := dqr2 dqK_20 dqw_cX7_name_0 12 rfl rfl rfl rfl rfl
theorem dX7_name_15 : decode cX7_name 15 = .ok (.invokestatic 152, 3) := dqr2 dqK_184 dqw_cX7_name_0 15 rfl rfl rfl rfl rfl
theorem dX7_name_18 : decode cX7_name 18 = .ok (.ifCond .eq 18, 3) := dqrs2 dqK_153 dqw_cX7_name_0 18 rfl rfl rfl rfl (by decide)
theorem dX7_name_21 : decode cX7_name 21 = .ok (.iload_n 3, 1) := dqr0 dqK_29 dqw_cX7_name_0 21 rfl rfl
theorem dX7_name_22 : decode cX7_name 22 = .ok (.i2l, 1) := dqr0 dqK_133 dqw_cX7_name_0 22 rfl rfl
theorem dX7_name_23 : decode cX7_name 23 = .ok (.lconst 0, 1) := dqr0 dqK_9 dqw_cX7_name_0 23 rfl rfl
theorem dqw_cX7_name_24 : dqLF cX7_name 24 [4, 28, 120, 4, 100, 133, 184, 0, 152, 154, 0, 6, 16, 254, 172, 42, 180, 0, 19, 27, 46, 54, 4, 42] := by decide +kernel
theorem dX7_name_24 : decode cX7_name 24 = .ok (.iconst 1, 1) := dqr0 dqK_4 dqw_cX7_name_24 0 rfl rfl
theorem dX7_name_25 : decode cX7_name 25 = .ok (.iload_n 2, 1) := dqr0 dqK_28 dqw_cX7_name_24 1 rfl rfl
theorem dX7_name_26 : decode cX7_name 26 = .ok (.ishl, 1) := dqr0 dqK_120 dqw_cX7_name_24 2 rfl rfl
theorem dX7_name_27 : decode cX7_name 27 = .ok (.iconst 1, 1) := dqr0 dqK_4 dqw_cX7_name_24 3 rfl rfl
theorem dX7_name_28 : decode cX7_name 28 = .ok (.isub, 1) := dqr0 dqK_100 dqw_cX7_name_24 4 rfl rfl
theorem dX7_name_29 : decode cX7_name 29 = .ok (.i2l, 1) := dqr0 dqK_133 dqw_cX7_name_24 5 rfl rfl
theorem dX7_name_30 : decode cX7_name 30 = .ok (.invokestatic 152, 3) := dqr2 dqK_184 dqw_cX7_name_24 6 rfl rfl rfl rfl rfl
theorem dX7_name_33 : decode cX7_name 33 = .ok (.ifCond .ne 6, 3) := dqrs2 dqK_154 dqw_cX7_name_24 9 rfl rfl rfl rfl (by decide)
theorem dX7_name_36 : decode cX7_name 36 = .ok (.bipush (-2), 2) := dqrs1 dqK_16 dqw_cX7_name_24 12 rfl rfl rfl (by decide)
theorem dX7_name_38 : decode cX7_name 38 = .ok (.ireturn, 1) := dqr0 dqK_172 dqw_cX7_name_24 14 rfl rfl
theorem dX7_name_39 : decode cX7_name 39 = .ok (.aload_n 0, 1) := dqr0 dqK_42 dqw_cX7_name_24 15 rfl rfl
theorem dX7_name_40 : decode cX7_name 40 = .ok (.getfield 19, 3) := dqr2 dqK_180 dqw_cX7_name_24 16 rfl rfl rfl rfl rfl
theorem dX7_name_43 : decode cX7_name 43 = .ok (.iload_n 1, 1) := dqr0 dqK_27 dqw_cX7_name_24 19 rfl rfl
theorem dX7_name_44 : decode cX7_name 44 = .ok (.iaload, 1) := dqr0 dqK_46 dqw_cX7_name_24 20 rfl rfl
theorem dX7_name_45 : decode cX7_name 45 = .ok (.istore 4, 2) := dqr1 dqK_54 dqw_cX7_name_24 21 rfl rfl rfl
theorem dX7_name_47 : decode cX7_name 47 = .ok (.aload_n 0, 1) := dqr0 dqK_42 dqw_cX7_name_24 23 rfl rfl
theorem dqw_cX7_name_48 : dqLF cX7_name 48 [180, 0, 19, 27, 28, 79, 42, 180, 0, 22, 27, 29, 79, 21, 4, 172] := by decide +kernel
theorem dX7_name_48 : decode cX7_name 48 = .ok (.getfield 19, 3) := dqr2 dqK_180 dqw_cX7_name_48 0 rfl rfl rfl rfl rfl
theorem dX7_name_51 : decode cX7_name 51 = .ok (.iload_n 1, 1) := dqr0 dqK_27 dqw_cX7_name_48 3 rfl rfl
theorem dX7_name_52 : decode cX7_name 52 = .ok (.iload_n 2, 1) := dqr0 dqK_28 dqw_cX7_name_48 4 rfl rfl
theorem dX7_name_53 : decode cX7_name 53 = .ok (.iastore, 1) := dqr0 dqK_79 dqw_cX7_name_48 5 rfl rfl
theorem dX7_name_54 : decode cX7_name 54 = .ok (.aload_n 0, 1) := dqr0 dqK_42 dqw_cX7_name_48 6 rfl rfl
theorem dX7_name_55 : decode cX7_name 55 = .ok (.getfield 22, 3) := dqr2 dqK_180 dqw_cX7_name_48 7 rfl rfl rfl rfl rfl
theorem dX7_name_58 : decode cX7_name 58 = .ok (.iload_n 1, 1) := dqr0 dqK_27 dqw_cX7_name_48 10 rfl rfl
theorem dX7_name_59 : decode cX7_name 59 = .ok (.iload_n 3, 1) := dqr0 dqK_29 dqw_cX7_name_48 11 rfl rfl
theorem dX7_name_60 : decode cX7_name 60 = .ok (.iastore, 1) := dqr0 dqK_79 dqw_cX7_name_48 12 rfl rfl
theorem dX7_name_61 : decode cX7_name 61 = .ok (.iload 4, 2) := dqr1 dqK_21 dqw_cX7_name_48 13 rfl rfl rfl
theorem dX7_name_63 : decode cX7_name 63 = .ok (.ireturn, 1) := dqr0 dqK_172 dqw_cX7_name_48 15 rfl rfl
theorem dqw_cX7_line_0 : dqLF cX7_line 0 [42, 27, 182, 0, 164, 153, 0, 31, 42, 28, 182, 0, 164, 153, 0, 23, 29, 133, 9, 20, 0, 167] := by decide +kernel
theorem dX7_line_0 : decode cX7_line 0 = .ok (.aload_n 0, 1) := dqr0 dqK_42 dqw_cX7_line_0 0 rfl rfl
theorem dX7_line_1 : decode cX7_line 1 = .ok (.iload_n 1, 1) := dqr0 dqK_27 dqw_cX7_line_0 1 rfl rfl
theorem dX7_line_2 : decode cX7_line 2 = .ok (.invokevirtual 164, 3) := dqr2 dqK_182 dqw_cX7_line_0 2 rfl rfl rfl rfl rfl
theorem dX7_line_5 : decode cX7_line 5 = .ok (.ifCond .eq 31, 3) := dqrs2 dqK_153 dqw_cX7_line_0 5 rfl rfl rfl rfl (by decide)
theorem dX7_line_8 : decode cX7_line 8 = .ok (.aload_n 0, 1) := dqr0 dqK_42 dqw_cX7_line_0 8 rfl rfl
theorem dX7_line_9 : decode cX7_line 9 = .ok (.iload_n 2, 1) := dqr0 dqK_28 dqw_cX7_line_0 9 rfl rfl
theorem dX7_line_10 : decode cX7_line 10 = .ok (.invokevirtual 164, 3) := dqr2 dqK_182 dqw_cX7_line_0 10 rfl rfl rfl rfl rfl
theorem dX7_line_13 : decode cX7_line 13 = .ok (.ifCond .eq 23, 3) := dqrs2 dqK_153 dqw_cX7_line_0 13 rfl rfl rfl rfl (by decide)
theorem dX7_line_16 : decode cX7_line 16 = .ok (.iload_n 3, 1) := dqr0 dqK_29 dqw_cX7_line_0 16 rfl rfl
theorem dX7_line_17 : decode cX7_line 17 = .ok (.i2l, 1) := dqr0 dqK_133 dqw_cX7_line_0 17 rfl rfl
theorem dX7_line_18 : decode cX7_line 18 = .ok (.lconst 0, 1) := dqr0 dqK_9 dqw_cX7_line_0 18 rfl rfl
theorem dX7_line_19 : decode cX7_line 19 = .ok (.ldc2_w 167, 3) := dqr2 dqK_20 dqw_cX7_line_0 19 rfl rfl rfl rfl rfl
theorem dqw_cX7_line_22 : dqLF cX7_line 22 [184, 0, 152, 153, 0, 11, 21, 4, 184, 0, 158, 154, 0, 5, 2, 172, 21, 5, 133, 9, 10, 184, 0, 152] := by decide +kernel
theorem dX7_line_22 : decode cX7_line 22 = .ok (.invokestatic 152, 3) := dqr2 dqK_184 dqw_cX7_line_22 0 rfl rfl rfl rfl rfl
theorem dX7_line_25 : decode cX7_line 25 = .ok (.ifCond .eq 11, 3) := dqrs2 dqK_153 dqw_cX7_line_22 3 rfl rfl rfl rfl (by decide)
theorem dX7_line_28 : decode cX7_line 28 = .ok (.iload 4, 2) := dqr1 dqK_21 dqw_cX7_line_22 6 rfl rfl rfl
theorem dX7_line_30 : decode cX7_line 30 = .ok (.invokestatic 158, 3) := dqr2 dqK_184 dqw_cX7_line_22 8 rfl rfl rfl rfl rfl
theorem dX7_line_33 : decode cX7_line 33 = .ok (.ifCond .ne 5, 3) := dqrs2 dqK_154 dqw_cX7_line_22 11 rfl rfl rfl rfl (by decide)
theorem dX7_line_36 : decode cX7_line 36 = .ok (.iconst (-1), 1) := dqr0 dqK_2 dqw_cX7_line_22 14 rfl rfl
theorem dX7_line_37 : decode cX7_line 37 = .ok (.ireturn, 1) := dqr0 dqK_172 dqw_cX7_line_22 15 rfl rfl
theorem dX7_line_38 : decode cX7_line 38 = .ok (.iload 5, 2) := dqr1 dqK_21 dqw_cX7_line_22 16 rfl rfl rfl
theorem dX7_line_40 : decode cX7_line 40 = .ok (.i2l, 1) := dqr0 dqK_133 dqw_cX7_line_22 18 rfl rfl
theorem dX7_line_41 : decode cX7_line 41 = .ok (.lconst 0, 1) := dqr0 dqK_9 dqw_cX7_line_22 19 rfl rfl
theorem dX7_line_42 : decode cX7_line 42 = .ok (.lconst 1, 1) := dqr0 dqK_10 dqw_cX7_line_22 20 rfl rfl
theorem dX7_line_43 : decode cX7_line 43 = .ok (.invokestatic 152, 3) := dqr2 dqK_184 dqw_cX7_line_22 21 rfl rfl rfl rfl rfl
theorem dqw_cX7_line_46 : dqLF cX7_line 46 [154, 0, 6, 16, 254, 172, 42, 180, 0, 147, 16, 40, 160, 0, 6, 16, 252, 172, 42, 180, 0, 25, 42] := by decide +kernel
theorem dX7_line_46 : decode cX7_line 46 = .ok (.ifCond .ne 6, 3) := dqrs2 dqK_154 dqw_cX7_line_46 0 rfl rfl rfl rfl (by decide)
theorem dX7_line_49 : decode cX7_line 49 = .ok (.bipush (-2), 2) := dqrs1 dqK_16 dqw_cX7_line_46 3 rfl rfl rfl (by decide)
theorem dX7_line_51 : decode cX7_line 51 = .ok (.ireturn, 1) := dqr0 dqK_172 dqw_cX7_line_46 5 rfl rfl
theorem dX7_line_52 : decode cX7_line 52 = .ok (.aload_n 0, 1) := dqr0 dqK_42 dqw_cX7_line_46 6 rfl rfl
theorem dX7_line_53 : decode cX7_line 53 = .ok (.getfield 147, 3) := dqr2 dqK_180 dqw_cX7_line_46 7 rfl rfl rfl rfl rfl
theorem dX7_line_56 : decode cX7_line 56 = .ok (.bipush 40, 2) := dqrs1 dqK_16 dqw_cX7_line_46 10 rfl rfl rfl (by decide)
theorem dX7_line_58 : decode cX7_line 58 = .ok (.if_icmp .ne 6, 3) := dqrs2 dqK_160 dqw_cX7_line_46 12 rfl rfl rfl rfl (by decide)
theorem dX7_line_61 : decode cX7_line 61 = .ok (.bipush (-4), 2) := dqrs1 dqK_16 dqw_cX7_line_46 15 rfl rfl rfl (by decide)
theorem dX7_line_63 : decode cX7_line 63 = .ok (.ireturn, 1) := dqr0 dqK_172 dqw_cX7_line_46 17 rfl rfl
theorem dX7_line_64 : decode cX7_line 64 = .ok (.aload_n 0, 1) := dqr0 dqK_42 dqw_cX7_line_46 18 rfl rfl
theorem dX7_line_65 : decode cX7_line 65 = .ok (.getfield 25, 3) := dqr2 dqK_180 dqw_cX7_line_46 19 rfl rfl rfl rfl rfl
theorem dX7_line_68 : decode cX7_line 68 = .ok (.aload_n 0, 1) := dqr0 dqK_42 dqw_cX7_line_46 22 rfl rfl
theorem dqw_cX7_line_69 : dqLF cX7_line 69 [180, 0, 147, 27, 79, 42, 180, 0, 28, 42, 180, 0, 147, 28, 79, 42, 180, 0, 31, 42, 180, 0, 147, 29] := by decide +kernel
theorem dX7_line_69 : decode cX7_line 69 = .ok (.getfield 147, 3) := dqr2 dqK_180 dqw_cX7_line_69 0 rfl rfl rfl rfl rfl
theorem dX7_line_72 : decode cX7_line 72 = .ok (.iload_n 1, 1) := dqr0 dqK_27 dqw_cX7_line_69 3 rfl rfl
theorem dX7_line_73 : decode cX7_line 73 = .ok (.iastore, 1) := dqr0 dqK_79 dqw_cX7_line_69 4 rfl rfl
theorem dX7_line_74 : decode cX7_line 74 = .ok (.aload_n 0, 1) := dqr0 dqK_42 dqw_cX7_line_69 5 rfl rfl
theorem dX7_line_75 : decode cX7_line 75 = .ok (.getfield 28, 3) := dqr2 dqK_180 dqw_cX7_line_69 6 rfl rfl rfl rfl rfl
theorem dX7_line_78 : decode cX7_line 78 = .ok (.aload_n 0, 1) := dqr0 dqK_42 dqw_cX7_line_69 9 rfl rfl
theorem dX7_line_79 : decode cX7_line 79 = .ok (.getfield 147, 3) := dqr2 dqK_180 dqw_cX7_line_69 10 rfl rfl rfl rfl rfl
theorem dX7_line_82 : decode cX7_line 82 = .ok (.iload_n 2, 1) := dqr0 dqK_28 dqw_cX7_line_69 13 rfl rfl
theorem dX7_line_83 : decode cX7_line 83 = .ok (.iastore, 1) := dqr0 dqK_79 dqw_cX7_line_69 14 rfl rfl
theorem dX7_line_84 : decode cX7_line 84 = .ok (.aload_n 0, 1) := dqr0 dqK_42 dqw_cX7_line_69 15 rfl rfl
theorem dX7_line_85 : decode cX7_line 85 = .ok (.getfield 31, 3) := dqr2 dqK_180 dqw_cX7_line_69 16 rfl rfl rfl rfl rfl
theorem dX7_line_88 : decode cX7_line 88 = .ok (.aload_n 0, 1) := dqr0 dqK_42 dqw_cX7_line_69 19 rfl rfl
theorem dX7_line_89 : decode cX7_line 89 = .ok (.getfield 147, 3) := dqr2 dqK_180 dqw_cX7_line_69 20 rfl rfl rfl rfl rfl
theorem dX7_line_92 : decode cX7_line 92 = .ok (.iload_n 3, 1) := dqr0 dqK_29 dqw_cX7_line_69 23 rfl rfl
theorem dqw_cX7_line_93 : dqLF cX7_line 93 [79, 42, 180, 0, 34, 42, 180, 0, 147, 21, 4, 79, 42, 180, 0, 37, 42, 180, 0, 147, 21, 5, 79, 42] := by decide +kernel
theorem dX7_line_93 : decode cX7_line 93 = .ok (.iastore, 1) := dqr0 dqK_79 dqw_cX7_line_93 0 rfl rfl
theorem dX7_line_94 : decode cX7_line 94 = .ok (.aload_n 0, 1) := dqr0 dqK_42 dqw_cX7_line_93 1 rfl rfl
theorem dX7_line_95 : decode cX7_line 95 = .ok (.getfield 34, 3) := dqr2 dqK_180 dqw_cX7_line_93 2 rfl rfl rfl rfl rfl
theorem dX7_line_98 : decode cX7_line 98 = .ok (.aload_n 0, 1) := dqr0 dqK_42 dqw_cX7_line_93 5 rfl rfl
theorem dX7_line_99 : decode cX7_line 99 = .ok (.getfield 147, 3) := dqr2 dqK_180 dqw_cX7_line_93 6 rfl rfl rfl rfl rfl
theorem dX7_line_102 : decode cX7_line 102 = .ok (.iload 4, 2) := dqr1 dqK_21 dqw_cX7_line_93 9 rfl rfl rfl
theorem dX7_line_104 : decode cX7_line 104 = .ok (.iastore, 1) := dqr0 dqK_79 dqw_cX7_line_93 11 rfl rfl
theorem dX7_line_105 : decode cX7_line 105 = .ok (.aload_n 0, 1) := dqr0 dqK_42 dqw_cX7_line_93 12 rfl rfl
theorem dX7_line_106 : decode cX7_line 106 = .ok (.getfield 37, 3) := dqr2 dqK_180 dqw_cX7_line_93 13 rfl rfl rfl rfl rfl
theorem dX7_line_109 : decode cX7_line 109 = .ok (.aload_n 0, 1) := dqr0 dqK_42 dqw_cX7_line_93 16 rfl rfl
theorem dX7_line_110 : decode cX7_line 110 = .ok (.getfield 147, 3) := dqr2 dqK_180 dqw_cX7_line_93 17 rfl rfl rfl rfl rfl
theorem dX7_line_113 : decode cX7_line 113 = .ok (.iload 5, 2) := dqr1 dqK_21 dqw_cX7_line_93 20 rfl rfl rfl
theorem dX7_line_115 : decode cX7_line 115 = .ok (.iastore, 1) := dqr0 dqK_79 dqw_cX7_line_93 22 rfl rfl
theorem dX7_line_116 : decode cX7_line 116 = .ok (.aload_n 0, 1) := dqr0 dqK_42 dqw_cX7_line_93 23 rfl rfl
theorem dqw_cX7_line_117 : dqLF cX7_line 117 [89, 180, 0, 147, 4, 96, 181, 0, 147, 42, 180, 0, 147, 4, 100, 172] := by decide +kernel
theorem dX7_line_117 : decode cX7_line 117 = .ok (.dup, 1) := dqr0 dqK_89 dqw_cX7_line_117 0 rfl rfl
theorem dX7_line_118 : decode cX7_line 118 = .ok (.getfield 147, 3) := dqr2 dqK_180 dqw_cX7_line_117 1 rfl rfl rfl rfl rfl
theorem dX7_line_121 : decode cX7_line 121 = .ok (.iconst 1, 1) := dqr0 dqK_4 dqw_cX7_line_117 4 rfl rfl
theorem dX7_line_122 : decode cX7_line 122 = .ok (.iadd, 1) := dqr0 dqK_96 dqw_cX7_line_117 5 rfl rfl
theorem dX7_line_123 : decode cX7_line 123 = .ok (.putfield 147, 3) := dqr2 dqK_181 dqw_cX7_line_117 6 rfl rfl rfl rfl rfl
theorem dX7_line_126 : decode cX7_line 126 = .ok (.aload_n 0, 1) := dqr0 dqK_42 dqw_cX7_line_117 9 rfl rfl
theorem dX7_line_127 : decode cX7_line 127 = .ok (.getfield 147, 3) := dqr2 dqK_180 dqw_cX7_line_117 10 rfl rfl rfl rfl rfl
theorem dX7_line_130 : decode cX7_line 130 = .ok (.iconst 1, 1) := dqr0 dqK_4 dqw_cX7_line_117 13 rfl rfl
theorem dX7_line_131 : decode cX7_line 131 = .ok (.isub, 1) := dqr0 dqK_100 dqw_cX7_line_117 14 rfl rfl
theorem dX7_line_132 : decode cX7_line 132 = .ok (.ireturn, 1) := dqr0 dqK_172 dqw_cX7_line_117 15 rfl rfl
theorem dqw_cX7_metre_0 : dqLF cX7_metre 0 [27, 133, 9, 20, 0, 169, 184, 0, 152, 154, 0, 5, 2, 172, 27, 5, 162, 0, 18, 28, 133, 10] := by decide +kernel
theorem dX7_metre_0 : decode cX7_metre 0 = .ok (.iload_n 1, 1) := dqr0 dqK_27 dqw_cX7_metre_0 0 rfl rfl
theorem dX7_metre_1 : decode cX7_metre 1 = .ok (.i2l, 1) := dqr0 dqK_133 dqw_cX7_metre_0 1 rfl rfl
theorem dX7_metre_2 : decode cX7_metre 2 = .ok (.lconst 0, 1) := dqr0 dqK_9 dqw_cX7_metre_0 2 rfl rfl
theorem dX7_metre_3 : decode cX7_metre 3 = .ok (.ldc2_w 169, 3) := dqr2 dqK_20 dqw_cX7_metre_0 3 rfl rfl rfl rfl rfl
theorem dX7_metre_6 : decode cX7_metre 6 = .ok (.invokestatic 152, 3) := dqr2 dqK_184 dqw_cX7_metre_0 6 rfl rfl rfl rfl rfl
theorem dX7_metre_9 : decode cX7_metre 9 = .ok (.ifCond .ne 5, 3) := dqrs2 dqK_154 dqw_cX7_metre_0 9 rfl rfl rfl rfl (by decide)
theorem dX7_metre_12 : decode cX7_metre 12 = .ok (.iconst (-1), 1) := dqr0 dqK_2 dqw_cX7_metre_0 12 rfl rfl
theorem dX7_metre_13 : decode cX7_metre 13 = .ok (.ireturn, 1) := dqr0 dqK_172 dqw_cX7_metre_0 13 rfl rfl
theorem dX7_metre_14 : decode cX7_metre 14 = .ok (.iload_n 1, 1) := dqr0 dqK_27 dqw_cX7_metre_0 14 rfl rfl
theorem dX7_metre_15 : decode cX7_metre 15 = .ok (.iconst 2, 1) := dqr0 dqK_5 dqw_cX7_metre_0 15 rfl rfl
theorem dX7_metre_16 : decode cX7_metre 16 = .ok (.if_icmp .ge 18, 3) := dqrs2 dqK_162 dqw_cX7_metre_0 16 rfl rfl rfl rfl (by decide)
theorem dX7_metre_19 : decode cX7_metre 19 = .ok (.iload_n 2, 1) := dqr0 dqK_28 dqw_cX7_metre_0 19 rfl rfl
theorem dX7_metre_20 : decode cX7_metre 20 = .ok (.i2l, 1) := dqr0 dqK_133 dqw_cX7_metre_0 20 rfl rfl
theorem dX7_metre_21 : decode cX7_metre 21 = .ok (.lconst 1, 1) := dqr0 dqK_10 dqw_cX7_metre_0 21 rfl rfl
theorem dqw_cX7_metre_22 : dqLF cX7_metre 22 [20, 0, 171, 184, 0, 152, 154, 0, 21, 167, 0, 15, 28, 133, 9, 20, 0, 173, 184, 0, 152, 154, 0, 6] := by decide +kernel
theorem dX7_metre_22 : decode cX7_metre 22 = .ok (.ldc2_w 171, 3) := dqr2 dqK_20 dqw_cX7_metre_22 0 rfl rfl rfl rfl rfl
theorem dX7_metre_25 : decode cX7_metre 25 = .ok (.invokestatic 152, 3) := dqr2 dqK_184 dqw_cX7_metre_22 3 rfl rfl rfl rfl rfl
theorem dX7_metre_28 : decode cX7_metre 28 = .ok (.ifCond .ne 21, 3) := dqrs2 dqK_154 dqw_cX7_metre_22 6 rfl rfl rfl rfl (by decide)
theorem dX7_metre_31 : decode cX7_metre 31 = .ok (.goto 15, 3) := dqrs2 dqK_167 dqw_cX7_metre_22 9 rfl rfl rfl rfl (by decide)
theorem dX7_metre_34 : decode cX7_metre 34 = .ok (.iload_n 2, 1) := dqr0 dqK_28 dqw_cX7_metre_22 12 rfl rfl
theorem dX7_metre_35 : decode cX7_metre 35 = .ok (.i2l, 1) := dqr0 dqK_133 dqw_cX7_metre_22 13 rfl rfl
theorem dX7_metre_36 : decode cX7_metre 36 = .ok (.lconst 0, 1) := dqr0 dqK_9 dqw_cX7_metre_22 14 rfl rfl
theorem dX7_metre_37 : decode cX7_metre 37 = .ok (.ldc2_w 173, 3) := dqr2 dqK_20 dqw_cX7_metre_22 15 rfl rfl rfl rfl rfl
theorem dX7_metre_40 : decode cX7_metre 40 = .ok (.invokestatic 152, 3) := dqr2 dqK_184 dqw_cX7_metre_22 18 rfl rfl rfl rfl rfl
theorem dX7_metre_43 : decode cX7_metre 43 = .ok (.ifCond .ne 6, 3) := dqrs2 dqK_154 dqw_cX7_metre_22 21 rfl rfl rfl rfl (by decide)
theorem dqw_cX7_metre_46 : dqLF cX7_metre 46 [16, 254, 172, 42, 180, 0, 40, 27, 46, 62, 42, 180, 0, 40, 27, 28, 79, 29, 172] := by decide +kernel
theorem dX7_metre_46 : decode cX7_metre 46 = .ok (.bipush (-2), 2) := dqrs1 dqK_16 dqw_cX7_metre_46 0 rfl rfl rfl (by decide)
theorem dX7_metre_48 : decode cX7_metre 48 = .ok (.ireturn, 1) := dqr0 dqK_172 dqw_cX7_metre_46 2 rfl rfl
theorem dX7_metre_49 : decode cX7_metre 49 = .ok (.aload_n 0, 1) := dqr0 dqK_42 dqw_cX7_metre_46 3 rfl rfl
theorem dX7_metre_50 : decode cX7_metre 50 = .ok (.getfield 40, 3) := dqr2 dqK_180 dqw_cX7_metre_46 4 rfl rfl rfl rfl rfl
theorem dX7_metre_53 : decode cX7_metre 53 = .ok (.iload_n 1, 1) := dqr0 dqK_27 dqw_cX7_metre_46 7 rfl rfl
theorem dX7_metre_54 : decode cX7_metre 54 = .ok (.iaload, 1) := dqr0 dqK_46 dqw_cX7_metre_46 8 rfl rfl
theorem dX7_metre_55 : decode cX7_metre 55 = .ok (.istore_n 3, 1) := dqr0 dqK_62 dqw_cX7_metre_46 9 rfl rfl
theorem dX7_metre_56 : decode cX7_metre 56 = .ok (.aload_n 0, 1) := dqr0 dqK_42 dqw_cX7_metre_46 10 rfl rfl
theorem dX7_metre_57 : decode cX7_metre 57 = .ok (.getfield 40, 3) := dqr2 dqK_180 dqw_cX7_metre_46 11 rfl rfl rfl rfl rfl
theorem dX7_metre_60 : decode cX7_metre 60 = .ok (.iload_n 1, 1) := dqr0 dqK_27 dqw_cX7_metre_46 14 rfl rfl
theorem dX7_metre_61 : decode cX7_metre 61 = .ok (.iload_n 2, 1) := dqr0 dqK_28 dqw_cX7_metre_46 15 rfl rfl
theorem dX7_metre_62 : decode cX7_metre 62 = .ok (.iastore, 1) := dqr0 dqK_79 dqw_cX7_metre_46 16 rfl rfl
theorem dX7_metre_63 : decode cX7_metre 63 = .ok (.iload_n 3, 1) := dqr0 dqK_29 dqw_cX7_metre_46 17 rfl rfl
theorem dX7_metre_64 : decode cX7_metre 64 = .ok (.ireturn, 1) := dqr0 dqK_172 dqw_cX7_metre_46 18 rfl rfl
theorem dqw_cX7_longOf_0 : dqLF cX7_longOf 0 [42, 180, 0, 7, 27, 46, 42, 180, 0, 16, 27, 46, 156, 0, 7, 3, 167, 0, 9, 42, 180, 0, 19, 28] := by decide +kernel
theorem dX7_longOf_0 : decode cX7_longOf 0 = .ok (.aload_n 0, 1) := dqr0 dqK_42 dqw_cX7_longOf_0 0 rfl rfl
theorem dX7_longOf_1 : decode cX7_longOf 1 = .ok (.getfield 7, 3) := dqr2 dqK_180 dqw_cX7_longOf_0 1 rfl rfl rfl rfl rfl
theorem dX7_longOf_4 : decode cX7_longOf 4 = .ok (.iload_n 1, 1) := dqr0 dqK_27 dqw_cX7_longOf_0 4 rfl rfl
theorem dX7_longOf_5 : decode cX7_longOf 5 = .ok (.iaload, 1) := dqr0 dqK_46 dqw_cX7_longOf_0 5 rfl rfl
theorem dX7_longOf_6 : decode cX7_longOf 6 = .ok (.aload_n 0, 1) := dqr0 dqK_42 dqw_cX7_longOf_0 6 rfl rfl
theorem dX7_longOf_7 : decode cX7_longOf 7 = .ok (.getfield 16, 3) := dqr2 dqK_180 dqw_cX7_longOf_0 7 rfl rfl rfl rfl rfl
theorem dX7_longOf_10 : decode cX7_longOf 10 = .ok (.iload_n 1, 1) := dqr0 dqK_27 dqw_cX7_longOf_0 10 rfl rfl
theorem dX7_longOf_11 : decode cX7_longOf 11 = .ok (.iaload, 1) := dqr0 dqK_46 dqw_cX7_longOf_0 11 rfl rfl
theorem dX7_longOf_12 : decode cX7_longOf 12 = .ok (.ifCond .ge 7, 3) := dqrs2 dqK_156 dqw_cX7_longOf_0 12 rfl rfl rfl rfl (by decide)
theorem dX7_longOf_15 : decode cX7_longOf 15 = .ok (.iconst 0, 1) := dqr0 dqK_3 dqw_cX7_longOf_0 15 rfl rfl
theorem dX7_longOf_16 : decode cX7_longOf 16 = .ok (.goto 9, 3) := dqrs2 dqK_167 dqw_cX7_longOf_0 16 rfl rfl rfl rfl (by decide)
theorem dX7_longOf_19 : decode cX7_longOf 19 = .ok (.aload_n 0, 1) := dqr0 dqK_42 dqw_cX7_longOf_0 19 rfl rfl
theorem dX7_longOf_20 : decode cX7_longOf 20 = .ok (.getfield 19, 3) := dqr2 dqK_180 dqw_cX7_longOf_0 20 rfl rfl rfl rfl rfl
theorem dX7_longOf_23 : decode cX7_longOf 23 = .ok (.iload_n 2, 1) := dqr0 dqK_28 dqw_cX7_longOf_0 23 rfl rfl
theorem dqw_cX7_longOf_24 : dqLF cX7_longOf 24 [46, 96, 172] := by decide +kernel
theorem dX7_longOf_24 : decode cX7_longOf 24 = .ok (.iaload, 1) := dqr0 dqK_46 dqw_cX7_longOf_24 0 rfl rfl
theorem dX7_longOf_25 : decode cX7_longOf 25 = .ok (.iadd, 1) := dqr0 dqK_96 dqw_cX7_longOf_24 1 rfl rfl
theorem dX7_longOf_26 : decode cX7_longOf 26 = .ok (.ireturn, 1) := dqr0 dqK_172 dqw_cX7_longOf_24 2 rfl rfl
theorem dqw_cX7_heavyOf_0 : dqLF cX7_heavyOf 0 [42, 180, 0, 16, 27, 46, 62, 29, 156, 0, 10, 42, 180, 0, 13, 27, 46, 172, 42, 180, 0, 13, 27, 46] := by decide +kernel
theorem dX7_heavyOf_0 : decode cX7_heavyOf 0 = .ok (.aload_n 0, 1) := dqr0 dqK_42 dqw_cX7_heavyOf_0 0 rfl rfl
theorem dX7_heavyOf_1 : decode cX7_heavyOf 1 = .ok (.getfield 16, 3) := dqr2 dqK_180 dqw_cX7_heavyOf_0 1 rfl rfl rfl rfl rfl
theorem dX7_heavyOf_4 : decode cX7_heavyOf 4 = .ok (.iload_n 1, 1) := dqr0 dqK_27 dqw_cX7_heavyOf_0 4 rfl rfl
theorem dX7_heavyOf_5 : decode cX7_heavyOf 5 = .ok (.iaload, 1) := dqr0 dqK_46 dqw_cX7_heavyOf_0 5 rfl rfl
theorem dX7_heavyOf_6 : decode cX7_heavyOf 6 = .ok (.istore_n 3, 1) := dqr0 dqK_62 dqw_cX7_heavyOf_0 6 rfl rfl
theorem dX7_heavyOf_7 : decode cX7_heavyOf 7 = .ok (.iload_n 3, 1) := dqr0 dqK_29 dqw_cX7_heavyOf_0 7 rfl rfl
theorem dX7_heavyOf_8 : decode cX7_heavyOf 8 = .ok (.ifCond .ge 10, 3) := dqrs2 dqK_156 dqw_cX7_heavyOf_0 8 rfl rfl rfl rfl (by decide)
theorem dX7_heavyOf_11 : decode cX7_heavyOf 11 = .ok (.aload_n 0, 1) := dqr0 dqK_42 dqw_cX7_heavyOf_0 11 rfl rfl
theorem dX7_heavyOf_12 : decode cX7_heavyOf 12 = .ok (.getfield 13, 3) := dqr2 dqK_180 dqw_cX7_heavyOf_0 12 rfl rfl rfl rfl rfl
theorem dX7_heavyOf_15 : decode cX7_heavyOf 15 = .ok (.iload_n 1, 1) := dqr0 dqK_27 dqw_cX7_heavyOf_0 15 rfl rfl
theorem dX7_heavyOf_16 : decode cX7_heavyOf 16 = .ok (.iaload, 1) := dqr0 dqK_46 dqw_cX7_heavyOf_0 16 rfl rfl
theorem dX7_heavyOf_17 : decode cX7_heavyOf 17 = .ok (.ireturn, 1) := dqr0 dqK_172 dqw_cX7_heavyOf_0 17 rfl rfl
theorem dX7_heavyOf_18 : decode cX7_heavyOf 18 = .ok (.aload_n 0, 1) := dqr0 dqK_42 dqw_cX7_heavyOf_0 18 rfl rfl
theorem dX7_heavyOf_19 : decode cX7_heavyOf 19 = .ok (.getfield 13, 3) := dqr2 dqK_180 dqw_cX7_heavyOf_0 19 rfl rfl rfl rfl rfl
theorem dX7_heavyOf_22 : decode cX7_heavyOf 22 = .ok (.iload_n 1, 1) := dqr0 dqK_27 dqw_cX7_heavyOf_0 22 rfl rfl
theorem dX7_heavyOf_23 : decode cX7_heavyOf 23 = .ok (.iaload, 1) := dqr0 dqK_46 dqw_cX7_heavyOf_0 23 rfl rfl
theorem dqw_cX7_heavyOf_24 : dqLF cX7_heavyOf 24 [4, 29, 120, 4, 100, 126, 54, 4, 21, 4, 42, 180, 0, 22, 28, 46, 29, 120, 128, 42, 180, 0, 13, 27] := by decide +kernel
theorem dX7_heavyOf_24 : decode cX7_heavyOf 24 = .ok (.iconst 1, 1) := dqr0 dqK_4 dqw_cX7_heavyOf_24 0 rfl rfl
theorem dX7_heavyOf_25 : decode cX7_heavyOf 25 = .ok (.iload_n 3, 1) := dqr0 dqK_29 dqw_cX7_heavyOf_24 1 rfl rfl
theorem dX7_heavyOf_26 : decode cX7_heavyOf 26 = .ok (.ishl, 1) := dqr0 dqK_120 dqw_cX7_heavyOf_24 2 rfl rfl
theorem dX7_heavyOf_27 : decode cX7_heavyOf 27 = .ok (.iconst 1, 1) := dqr0 dqK_4 dqw_cX7_heavyOf_24 3 rfl rfl
theorem dX7_heavyOf_28 : decode cX7_heavyOf 28 = .ok (.isub, 1) := dqr0 dqK_100 dqw_cX7_heavyOf_24 4 rfl rfl
theorem dX7_heavyOf_29 : decode cX7_heavyOf 29 = .ok (.iand, 1) := dqr0 dqK_126 dqw_cX7_heavyOf_24 5 rfl rfl
theorem dX7_heavyOf_30 : decode cX7_heavyOf 30 = .ok (.istore 4, 2) := dqr1 dqK_54 dqw_cX7_heavyOf_24 6 rfl rfl rfl
theorem dX7_heavyOf_32 : decode cX7_heavyOf 32 = .ok (.iload 4, 2) := dqr1 dqK_21 dqw_cX7_heavyOf_24 8 rfl rfl rfl
theorem dX7_heavyOf_34 : decode cX7_heavyOf 34 = .ok (.aload_n 0, 1) := dqr0 dqK_42 dqw_cX7_heavyOf_24 10 rfl rfl
theorem dX7_heavyOf_35 : decode cX7_heavyOf 35 = .ok (.getfield 22, 3) := dqr2 dqK_180 dqw_cX7_heavyOf_24 11 rfl rfl rfl rfl rfl
theorem dX7_heavyOf_38 : decode cX7_heavyOf 38 = .ok (.iload_n 2, 1) := dqr0 dqK_28 dqw_cX7_heavyOf_24 14 rfl rfl
theorem dX7_heavyOf_39 : decode cX7_heavyOf 39 = .ok (.iaload, 1) := dqr0 dqK_46 dqw_cX7_heavyOf_24 15 rfl rfl
theorem dX7_heavyOf_40 : decode cX7_heavyOf 40 = .ok (.iload_n 3, 1) := dqr0 dqK_29 dqw_cX7_heavyOf_24 16 rfl rfl
theorem dX7_heavyOf_41 : decode cX7_heavyOf 41 = .ok (.ishl, 1) := dqr0 dqK_120 dqw_cX7_heavyOf_24 17 rfl rfl
theorem dX7_heavyOf_42 : decode cX7_heavyOf 42 = .ok (.ior, 1) := dqr0 dqK_128 dqw_cX7_heavyOf_24 18 rfl rfl
theorem dX7_heavyOf_43 : decode cX7_heavyOf 43 = .ok (.aload_n 0, 1) := dqr0 dqK_42 dqw_cX7_heavyOf_24 19 rfl rfl
theorem dX7_heavyOf_44 : decode cX7_heavyOf 44 = .ok (.getfield 13, 3) := dqr2 dqK_180 dqw_cX7_heavyOf_24 20 rfl rfl rfl rfl rfl
theorem dX7_heavyOf_47 : decode cX7_heavyOf 47 = .ok (.iload_n 1, 1) := dqr0 dqK_27 dqw_cX7_heavyOf_24 23 rfl rfl
theorem dqw_cX7_heavyOf_48 : dqLF cX7_heavyOf 48 [46, 29, 122, 29, 42, 180, 0, 19, 28, 46, 96, 120, 128, 172] := by decide +kernel
theorem dX7_heavyOf_48 : decode cX7_heavyOf 48 = .ok (.iaload, 1) := dqr0 dqK_46 dqw_cX7_heavyOf_48 0 rfl rfl
theorem dX7_heavyOf_49 : decode cX7_heavyOf 49 = .ok (.iload_n 3, 1) := dqr0 dqK_29 dqw_cX7_heavyOf_48 1 rfl rfl
theorem dX7_heavyOf_50 : decode cX7_heavyOf 50 = .ok (.ishr, 1) := dqr0 dqK_122 dqw_cX7_heavyOf_48 2 rfl rfl
theorem dX7_heavyOf_51 : decode cX7_heavyOf 51 = .ok (.iload_n 3, 1) := dqr0 dqK_29 dqw_cX7_heavyOf_48 3 rfl rfl
theorem dX7_heavyOf_52 : decode cX7_heavyOf 52 = .ok (.aload_n 0, 1) := dqr0 dqK_42 dqw_cX7_heavyOf_48 4 rfl rfl
theorem dX7_heavyOf_53 : decode cX7_heavyOf 53 = .ok (.getfield 19, 3) := dqr2 dqK_180 dqw_cX7_heavyOf_48 5 rfl rfl rfl rfl rfl
theorem dX7_heavyOf_56 : decode cX7_heavyOf 56 = .ok (.iload_n 2, 1) := dqr0 dqK_28 dqw_cX7_heavyOf_48 8 rfl rfl
theorem dX7_heavyOf_57 : decode cX7_heavyOf 57 = .ok (.iaload, 1) := dqr0 dqK_46 dqw_cX7_heavyOf_48 9 rfl rfl
theorem dX7_heavyOf_58 : decode cX7_heavyOf 58 = .ok (.iadd, 1) := dqr0 dqK_96 dqw_cX7_heavyOf_48 10 rfl rfl
theorem dX7_heavyOf_59 : decode cX7_heavyOf 59 = .ok (.ishl, 1) := dqr0 dqK_120 dqw_cX7_heavyOf_48 11 rfl rfl
theorem dX7_heavyOf_60 : decode cX7_heavyOf 60 = .ok (.ior, 1) := dqr0 dqK_128 dqw_cX7_heavyOf_48 12 rfl rfl
theorem dX7_heavyOf_61 : decode cX7_heavyOf 61 = .ok (.ireturn, 1) := dqr0 dqK_172 dqw_cX7_heavyOf_48 13 rfl rfl
theorem dqw_cX7_heavyAll_0 : dqLF cX7_heavyAll 0 [42, 27, 29, 182, 0, 175, 42, 28, 29, 182, 0, 175, 42, 27, 29, 182, 0, 179, 120, 128, 172] := by decide +kernel
theorem dX7_heavyAll_0 : decode cX7_heavyAll 0 = .ok (.aload_n 0, 1) := dqr0 dqK_42 dqw_cX7_heavyAll_0 0 rfl rfl
theorem dX7_heavyAll_1 : decode cX7_heavyAll 1 = .ok (.iload_n 1, 1) := dqr0 dqK_27 dqw_cX7_heavyAll_0 1 rfl rfl
theorem dX7_heavyAll_2 : decode cX7_heavyAll 2 = .ok (.iload_n 3, 1) := dqr0 dqK_29 dqw_cX7_heavyAll_0 2 rfl rfl
theorem dX7_heavyAll_3 : decode cX7_heavyAll 3 = .ok (.invokevirtual 175, 3) := dqr2 dqK_182 dqw_cX7_heavyAll_0 3 rfl rfl rfl rfl rfl
theorem dX7_heavyAll_6 : decode cX7_heavyAll 6 = .ok (.aload_n 0, 1) := dqr0 dqK_42 dqw_cX7_heavyAll_0 6 rfl rfl
theorem dX7_heavyAll_7 : decode cX7_heavyAll 7 = .ok (.iload_n 2, 1) := dqr0 dqK_28 dqw_cX7_heavyAll_0 7 rfl rfl
theorem dX7_heavyAll_8 : decode cX7_heavyAll 8 = .ok (.iload_n 3, 1) := dqr0 dqK_29 dqw_cX7_heavyAll_0 8 rfl rfl
theorem dX7_heavyAll_9 : decode cX7_heavyAll 9 = .ok (.invokevirtual 175, 3) := dqr2 dqK_182 dqw_cX7_heavyAll_0 9 rfl rfl rfl rfl rfl
theorem dX7_heavyAll_12 : decode cX7_heavyAll 12 = .ok (.aload_n 0, 1) := dqr0 dqK_42 dqw_cX7_heavyAll_0 12 rfl rfl
theorem dX7_heavyAll_13 : decode cX7_heavyAll 13 = .ok (.iload_n 1, 1) := dqr0 dqK_27 dqw_cX7_heavyAll_0 13 rfl rfl
theorem dX7_heavyAll_14 : decode cX7_heavyAll 14 = .ok (.iload_n 3, 1) := dqr0 dqK_29 dqw_cX7_heavyAll_0 14 rfl rfl
theorem dX7_heavyAll_15 : decode cX7_heavyAll 15 = .ok (.invokevirtual 179, 3) := dqr2 dqK_182 dqw_cX7_heavyAll_0 15 rfl rfl rfl rfl rfl
theorem dX7_heavyAll_18 : decode cX7_heavyAll 18 = .ok (.ishl, 1) := dqr0 dqK_120 dqw_cX7_heavyAll_0 18 rfl rfl
theorem dX7_heavyAll_19 : decode cX7_heavyAll 19 = .ok (.ior, 1) := dqr0 dqK_128 dqw_cX7_heavyAll_0 19 rfl rfl
theorem dX7_heavyAll_20 : decode cX7_heavyAll 20 = .ok (.ireturn, 1) := dqr0 dqK_172 dqw_cX7_heavyAll_0 20 rfl rfl
theorem dqw_cX7_scans_0 : dqLF cX7_scans 0 [42, 27, 29, 182, 0, 179, 42, 180, 0, 40, 3, 46, 160, 0, 41, 42, 28, 29, 182, 0, 179, 42] := by decide +kernel
theorem dX7_scans_0 : decode cX7_scans 0 = .ok (.aload_n 0, 1) := dqr0 dqK_42 dqw_cX7_scans_0 0 rfl rfl
theorem dX7_scans_1 : decode cX7_scans 1 = .ok (.iload_n 1, 1) := dqr0 dqK_27 dqw_cX7_scans_0 1 rfl rfl
theorem dX7_scans_2 : decode cX7_scans 2 = .ok (.iload_n 3, 1) := dqr0 dqK_29 dqw_cX7_scans_0 2 rfl rfl
theorem dX7_scans_3 : decode cX7_scans 3 = .ok (.invokevirtual 179, 3) := dqr2 dqK_182 dqw_cX7_scans_0 3 rfl rfl rfl rfl rfl
theorem dX7_scans_6 : decode cX7_scans 6 = .ok (.aload_n 0, 1) := dqr0 dqK_42 dqw_cX7_scans_0 6 rfl rfl
theorem dX7_scans_7 : decode cX7_scans 7 = .ok (.getfield 40, 3) := dqr2 dqK_180 dqw_cX7_scans_0 7 rfl rfl rfl rfl rfl
theorem dX7_scans_10 : decode cX7_scans 10 = .ok (.iconst 0, 1) := dqr0 dqK_3 dqw_cX7_scans_0 10 rfl rfl
theorem dX7_scans_11 : decode cX7_scans 11 = .ok (.iaload, 1) := dqr0 dqK_46 dqw_cX7_scans_0 11 rfl rfl
theorem dX7_scans_12 : decode cX7_scans 12 = .ok (.if_icmp .ne 41, 3) := dqrs2 dqK_160 dqw_cX7_scans_0 12 rfl rfl rfl rfl (by decide)
theorem dX7_scans_15 : decode cX7_scans 15 = .ok (.aload_n 0, 1) := dqr0 dqK_42 dqw_cX7_scans_0 15 rfl rfl
theorem dX7_scans_16 : decode cX7_scans 16 = .ok (.iload_n 2, 1) := dqr0 dqK_28 dqw_cX7_scans_0 16 rfl rfl
theorem dX7_scans_17 : decode cX7_scans 17 = .ok (.iload_n 3, 1) := dqr0 dqK_29 dqw_cX7_scans_0 17 rfl rfl
theorem dX7_scans_18 : decode cX7_scans 18 = .ok (.invokevirtual 179, 3) := dqr2 dqK_182 dqw_cX7_scans_0 18 rfl rfl rfl rfl rfl
theorem dX7_scans_21 : decode cX7_scans 21 = .ok (.aload_n 0, 1) := dqr0 dqK_42 dqw_cX7_scans_0 21 rfl rfl
theorem dqw_cX7_scans_22 : dqLF cX7_scans 22 [180, 0, 40, 4, 46, 160, 0, 26, 42, 180, 0, 40, 5, 46, 42, 27, 28, 29, 182, 0, 182, 2, 130, 126] := by decide +kernel
theorem dX7_scans_22 : decode cX7_scans 22 = .ok (.getfield 40, 3) := dqr2 dqK_180 dqw_cX7_scans_22 0 rfl rfl rfl rfl rfl
theorem dX7_scans_25 : decode cX7_scans 25 = .ok (.iconst 1, 1) := dqr0 dqK_4 dqw_cX7_scans_22 3 rfl rfl
theorem dX7_scans_26 : decode cX7_scans 26 = .ok (.iaload, 1) := dqr0 dqK_46 dqw_cX7_scans_22 4 rfl rfl
theorem dX7_scans_27 : decode cX7_scans 27 = .ok (.if_icmp .ne 26, 3) := dqrs2 dqK_160 dqw_cX7_scans_22 5 rfl rfl rfl rfl (by decide)
theorem dX7_scans_30 : decode cX7_scans 30 = .ok (.aload_n 0, 1) := dqr0 dqK_42 dqw_cX7_scans_22 8 rfl rfl
theorem dX7_scans_31 : decode cX7_scans 31 = .ok (.getfield 40, 3) := dqr2 dqK_180 dqw_cX7_scans_22 9 rfl rfl rfl rfl rfl
theorem dX7_scans_34 : decode cX7_scans 34 = .ok (.iconst 2, 1) := dqr0 dqK_5 dqw_cX7_scans_22 12 rfl rfl
theorem dX7_scans_35 : decode cX7_scans 35 = .ok (.iaload, 1) := dqr0 dqK_46 dqw_cX7_scans_22 13 rfl rfl
theorem dX7_scans_36 : decode cX7_scans 36 = .ok (.aload_n 0, 1) := dqr0 dqK_42 dqw_cX7_scans_22 14 rfl rfl
theorem dX7_scans_37 : decode cX7_scans 37 = .ok (.iload_n 1, 1) := dqr0 dqK_27 dqw_cX7_scans_22 15 rfl rfl
theorem dX7_scans_38 : decode cX7_scans 38 = .ok (.iload_n 2, 1) := dqr0 dqK_28 dqw_cX7_scans_22 16 rfl rfl
theorem dX7_scans_39 : decode cX7_scans 39 = .ok (.iload_n 3, 1) := dqr0 dqK_29 dqw_cX7_scans_22 17 rfl rfl
theorem dX7_scans_40 : decode cX7_scans 40 = .ok (.invokevirtual 182, 3) := dqr2 dqK_182 dqw_cX7_scans_22 18 rfl rfl rfl rfl rfl
theorem dX7_scans_43 : decode cX7_scans 43 = .ok (.iconst (-1), 1) := dqr0 dqK_2 dqw_cX7_scans_22 21 rfl rfl
theorem dX7_scans_44 : decode cX7_scans 44 = .ok (.ixor, 1) := dqr0 dqK_130 dqw_cX7_scans_22 22 rfl rfl
theorem dX7_scans_45 : decode cX7_scans 45 = .ok (.iand, 1) := dqr0 dqK_126 dqw_cX7_scans_22 23 rfl rfl
theorem dqw_cX7_scans_46 : dqLF cX7_scans 46 [154, 0, 7, 4, 167, 0, 4, 3, 172] := by decide +kernel
theorem dX7_scans_46 : decode cX7_scans 46 = .ok (.ifCond .ne 7, 3) := dqrs2 dqK_154 dqw_cX7_scans_46 0 rfl rfl rfl rfl (by decide)
theorem dX7_scans_49 : decode cX7_scans 49 = .ok (.iconst 1, 1) := dqr0 dqK_4 dqw_cX7_scans_46 3 rfl rfl
theorem dX7_scans_50 : decode cX7_scans 50 = .ok (.goto 4, 3) := dqrs2 dqK_167 dqw_cX7_scans_46 4 rfl rfl rfl rfl (by decide)
theorem dX7_scans_53 : decode cX7_scans 53 = .ok (.iconst 0, 1) := dqr0 dqK_3 dqw_cX7_scans_46 7 rfl rfl
theorem dX7_scans_54 : decode cX7_scans 54 = .ok (.ireturn, 1) := dqr0 dqK_172 dqw_cX7_scans_46 8 rfl rfl
theorem dqw_cX7_told_0 : dqLF cX7_told 0 [42, 27, 182, 0, 186, 154, 0, 5, 2, 172, 28] := by decide +kernel
theorem dX7_told_0 : decode cX7_told 0 = .ok (.aload_n 0, 1) := dqr0 dqK_42 dqw_cX7_told_0 0 rfl rfl
theorem dX7_told_1 : decode cX7_told 1 = .ok (.iload_n 1, 1) := dqr0 dqK_27 dqw_cX7_told_0 1 rfl rfl
theorem dX7_told_2 : decode cX7_told 2 = .ok (.invokevirtual 186, 3) := dqr2 dqK_182 dqw_cX7_told_0 2 rfl rfl rfl rfl rfl
theorem dX7_told_5 : decode cX7_told 5 = .ok (.ifCond .ne 5, 3) := dqrs2 dqK_154 dqw_cX7_told_0 5 rfl rfl rfl rfl (by decide)
theorem dX7_told_8 : decode cX7_told 8 = .ok (.iconst (-1), 1) := dqr0 dqK_2 dqw_cX7_told_0 8 rfl rfl
theorem dX7_told_9 : decode cX7_told 9 = .ok (.ireturn, 1) := dqr0 dqK_172 dqw_cX7_told_0 9 rfl rfl
theorem dX7_told_10 : decode cX7_told 10 = .ok (.iload_n 2, 1) := dqr0 dqK_28 dqw_cX7_told_0 10 rfl rfl
theorem dX7_told_11 : decode cX7_told 11 = .ok (.tableswitch 168 0 7 #[45, 52, 59, 66, 73, 80, 111, 145], 45) := by decide +kernel
theorem dqw_cX7_told_56 : dqLF cX7_told 56 [42, 180, 0, 25, 27, 46, 172, 42, 180, 0, 28, 27, 46, 172, 42, 180, 0, 31, 27, 46, 172, 42] := by decide +kernel
theorem dX7_told_56 : decode cX7_told 56 = .ok (.aload_n 0, 1) := dqr0 dqK_42 dqw_cX7_told_56 0 rfl rfl
theorem dX7_told_57 : decode cX7_told 57 = .ok (.getfield 25, 3) := dqr2 dqK_180 dqw_cX7_told_56 1 rfl rfl rfl rfl rfl
theorem dX7_told_60 : decode cX7_told 60 = .ok (.iload_n 1, 1) := dqr0 dqK_27 dqw_cX7_told_56 4 rfl rfl
theorem dX7_told_61 : decode cX7_told 61 = .ok (.iaload, 1) := dqr0 dqK_46 dqw_cX7_told_56 5 rfl rfl
theorem dX7_told_62 : decode cX7_told 62 = .ok (.ireturn, 1) := dqr0 dqK_172 dqw_cX7_told_56 6 rfl rfl
theorem dX7_told_63 : decode cX7_told 63 = .ok (.aload_n 0, 1) := dqr0 dqK_42 dqw_cX7_told_56 7 rfl rfl
theorem dX7_told_64 : decode cX7_told 64 = .ok (.getfield 28, 3) := dqr2 dqK_180 dqw_cX7_told_56 8 rfl rfl rfl rfl rfl
theorem dX7_told_67 : decode cX7_told 67 = .ok (.iload_n 1, 1) := dqr0 dqK_27 dqw_cX7_told_56 11 rfl rfl
theorem dX7_told_68 : decode cX7_told 68 = .ok (.iaload, 1) := dqr0 dqK_46 dqw_cX7_told_56 12 rfl rfl
theorem dX7_told_69 : decode cX7_told 69 = .ok (.ireturn, 1) := dqr0 dqK_172 dqw_cX7_told_56 13 rfl rfl
theorem dX7_told_70 : decode cX7_told 70 = .ok (.aload_n 0, 1) := dqr0 dqK_42 dqw_cX7_told_56 14 rfl rfl
theorem dX7_told_71 : decode cX7_told 71 = .ok (.getfield 31, 3) := dqr2 dqK_180 dqw_cX7_told_56 15 rfl rfl rfl rfl rfl
theorem dX7_told_74 : decode cX7_told 74 = .ok (.iload_n 1, 1) := dqr0 dqK_27 dqw_cX7_told_56 18 rfl rfl
theorem dX7_told_75 : decode cX7_told 75 = .ok (.iaload, 1) := dqr0 dqK_46 dqw_cX7_told_56 19 rfl rfl
theorem dX7_told_76 : decode cX7_told 76 = .ok (.ireturn, 1) := dqr0 dqK_172 dqw_cX7_told_56 20 rfl rfl
theorem dX7_told_77 : decode cX7_told 77 = .ok (.aload_n 0, 1) := dqr0 dqK_42 dqw_cX7_told_56 21 rfl rfl
theorem dqw_cX7_told_78 : dqLF cX7_told 78 [180, 0, 34, 27, 46, 172, 42, 180, 0, 37, 27, 46, 172, 42, 42, 180, 0, 25, 27, 46, 42, 180, 0, 28] := by decide +kernel
theorem dX7_told_78 : decode cX7_told 78 = .ok (.getfield 34, 3) := dqr2 dqK_180 dqw_cX7_told_78 0 rfl rfl rfl rfl rfl
theorem dX7_told_81 : decode cX7_told 81 = .ok (.iload_n 1, 1) := dqr0 dqK_27 dqw_cX7_told_78 3 rfl rfl
theorem dX7_told_82 : decode cX7_told 82 = .ok (.iaload, 1) := dqr0 dqK_46 dqw_cX7_told_78 4 rfl rfl
theorem dX7_told_83 : decode cX7_told 83 = .ok (.ireturn, 1) := dqr0 dqK_172 dqw_cX7_told_78 5 rfl rfl
theorem dX7_told_84 : decode cX7_told 84 = .ok (.aload_n 0, 1) := dqr0 dqK_42 dqw_cX7_told_78 6 rfl rfl
theorem dX7_told_85 : decode cX7_told 85 = .ok (.getfield 37, 3) := dqr2 dqK_180 dqw_cX7_told_78 7 rfl rfl rfl rfl rfl
theorem dX7_told_88 : decode cX7_told 88 = .ok (.iload_n 1, 1) := dqr0 dqK_27 dqw_cX7_told_78 10 rfl rfl
theorem dX7_told_89 : decode cX7_told 89 = .ok (.iaload, 1) := dqr0 dqK_46 dqw_cX7_told_78 11 rfl rfl
theorem dX7_told_90 : decode cX7_told 90 = .ok (.ireturn, 1) := dqr0 dqK_172 dqw_cX7_told_78 12 rfl rfl
theorem dX7_told_91 : decode cX7_told 91 = .ok (.aload_n 0, 1) := dqr0 dqK_42 dqw_cX7_told_78 13 rfl rfl
theorem dX7_told_92 : decode cX7_told 92 = .ok (.aload_n 0, 1) := dqr0 dqK_42 dqw_cX7_told_78 14 rfl rfl
theorem dX7_told_93 : decode cX7_told 93 = .ok (.getfield 25, 3) := dqr2 dqK_180 dqw_cX7_told_78 15 rfl rfl rfl rfl rfl
theorem dX7_told_96 : decode cX7_told 96 = .ok (.iload_n 1, 1) := dqr0 dqK_27 dqw_cX7_told_78 18 rfl rfl
theorem dX7_told_97 : decode cX7_told 97 = .ok (.iaload, 1) := dqr0 dqK_46 dqw_cX7_told_78 19 rfl rfl
theorem dX7_told_98 : decode cX7_told 98 = .ok (.aload_n 0, 1) := dqr0 dqK_42 dqw_cX7_told_78 20 rfl rfl
theorem dX7_told_99 : decode cX7_told 99 = .ok (.getfield 28, 3) := dqr2 dqK_180 dqw_cX7_told_78 21 rfl rfl rfl rfl rfl
theorem dqw_cX7_told_102 : dqLF cX7_told 102 [27, 46, 42, 180, 0, 34, 27, 46, 182, 0, 189, 153, 0, 7, 4, 167, 0, 4, 3, 172, 42, 42] := by decide +kernel
theorem dX7_told_102 : decode cX7_told 102 = .ok (.iload_n 1, 1) := dqr0 dqK_27 dqw_cX7_told_102 0 rfl rfl
theorem dX7_told_103 : decode cX7_told 103 = .ok (.iaload, 1) := dqr0 dqK_46 dqw_cX7_told_102 1 rfl rfl
theorem dX7_told_104 : decode cX7_told 104 = .ok (.aload_n 0, 1) := dqr0 dqK_42 dqw_cX7_told_102 2 rfl rfl
theorem dX7_told_105 : decode cX7_told 105 = .ok (.getfield 34, 3) := dqr2 dqK_180 dqw_cX7_told_102 3 rfl rfl rfl rfl rfl
theorem dX7_told_108 : decode cX7_told 108 = .ok (.iload_n 1, 1) := dqr0 dqK_27 dqw_cX7_told_102 6 rfl rfl
theorem dX7_told_109 : decode cX7_told 109 = .ok (.iaload, 1) := dqr0 dqK_46 dqw_cX7_told_102 7 rfl rfl
theorem dX7_told_110 : decode cX7_told 110 = .ok (.invokevirtual 189, 3) := dqr2 dqK_182 dqw_cX7_told_102 8 rfl rfl rfl rfl rfl
theorem dX7_told_113 : decode cX7_told 113 = .ok (.ifCond .eq 7, 3) := dqrs2 dqK_153 dqw_cX7_told_102 11 rfl rfl rfl rfl (by decide)
theorem dX7_told_116 : decode cX7_told 116 = .ok (.iconst 1, 1) := dqr0 dqK_4 dqw_cX7_told_102 14 rfl rfl
theorem dX7_told_117 : decode cX7_told 117 = .ok (.goto 4, 3) := dqrs2 dqK_167 dqw_cX7_told_102 15 rfl rfl rfl rfl (by decide)
theorem dX7_told_120 : decode cX7_told 120 = .ok (.iconst 0, 1) := dqr0 dqK_3 dqw_cX7_told_102 18 rfl rfl
theorem dX7_told_121 : decode cX7_told 121 = .ok (.ireturn, 1) := dqr0 dqK_172 dqw_cX7_told_102 19 rfl rfl
theorem dX7_told_122 : decode cX7_told 122 = .ok (.aload_n 0, 1) := dqr0 dqK_42 dqw_cX7_told_102 20 rfl rfl
theorem dX7_told_123 : decode cX7_told 123 = .ok (.aload_n 0, 1) := dqr0 dqK_42 dqw_cX7_told_102 21 rfl rfl
theorem dqw_cX7_told_124 : dqLF cX7_told 124 [180, 0, 25, 27, 46, 42, 180, 0, 34, 27, 46, 182, 0, 179, 42, 42, 180, 0, 28, 27, 46, 42] := by decide +kernel
theorem dX7_told_124 : decode cX7_told 124 = .ok (.getfield 25, 3) := dqr2 dqK_180 dqw_cX7_told_124 0 rfl rfl rfl rfl rfl
theorem dX7_told_127 : decode cX7_told 127 = .ok (.iload_n 1, 1) := dqr0 dqK_27 dqw_cX7_told_124 3 rfl rfl
theorem dX7_told_128 : decode cX7_told 128 = .ok (.iaload, 1) := dqr0 dqK_46 dqw_cX7_told_124 4 rfl rfl
theorem dX7_told_129 : decode cX7_told 129 = .ok (.aload_n 0, 1) := dqr0 dqK_42 dqw_cX7_told_124 5 rfl rfl
theorem dX7_told_130 : decode cX7_told 130 = .ok (.getfield 34, 3) := dqr2 dqK_180 dqw_cX7_told_124 6 rfl rfl rfl rfl rfl
theorem dX7_told_133 : decode cX7_told 133 = .ok (.iload_n 1, 1) := dqr0 dqK_27 dqw_cX7_told_124 9 rfl rfl
theorem dX7_told_134 : decode cX7_told 134 = .ok (.iaload, 1) := dqr0 dqK_46 dqw_cX7_told_124 10 rfl rfl
theorem dX7_told_135 : decode cX7_told 135 = .ok (.invokevirtual 179, 3) := dqr2 dqK_182 dqw_cX7_told_124 11 rfl rfl rfl rfl rfl
theorem dX7_told_138 : decode cX7_told 138 = .ok (.aload_n 0, 1) := dqr0 dqK_42 dqw_cX7_told_124 14 rfl rfl
theorem dX7_told_139 : decode cX7_told 139 = .ok (.aload_n 0, 1) := dqr0 dqK_42 dqw_cX7_told_124 15 rfl rfl
theorem dX7_told_140 : decode cX7_told 140 = .ok (.getfield 28, 3) := dqr2 dqK_180 dqw_cX7_told_124 16 rfl rfl rfl rfl rfl
theorem dX7_told_143 : decode cX7_told 143 = .ok (.iload_n 1, 1) := dqr0 dqK_27 dqw_cX7_told_124 19 rfl rfl
theorem dX7_told_144 : decode cX7_told 144 = .ok (.iaload, 1) := dqr0 dqK_46 dqw_cX7_told_124 20 rfl rfl
theorem dX7_told_145 : decode cX7_told 145 = .ok (.aload_n 0, 1) := dqr0 dqK_42 dqw_cX7_told_124 21 rfl rfl
theorem dqw_cX7_told_146 : dqLF cX7_told 146 [180, 0, 34, 27, 46, 182, 0, 179, 96, 172, 42, 42, 180, 0, 25, 27, 46, 42, 180, 0, 28, 27, 46, 42] := by decide +kernel
theorem dX7_told_146 : decode cX7_told 146 = .ok (.getfield 34, 3) := dqr2 dqK_180 dqw_cX7_told_146 0 rfl rfl rfl rfl rfl
theorem dX7_told_149 : decode cX7_told 149 = .ok (.iload_n 1, 1) := dqr0 dqK_27 dqw_cX7_told_146 3 rfl rfl
theorem dX7_told_150 : decode cX7_told 150 = .ok (.iaload, 1) := dqr0 dqK_46 dqw_cX7_told_146 4 rfl rfl
theorem dX7_told_151 : decode cX7_told 151 = .ok (.invokevirtual 179, 3) := dqr2 dqK_182 dqw_cX7_told_146 5 rfl rfl rfl rfl rfl
theorem dX7_told_154 : decode cX7_told 154 = .ok (.iadd, 1) := dqr0 dqK_96 dqw_cX7_told_146 8 rfl rfl
theorem dX7_told_155 : decode cX7_told 155 = .ok (.ireturn, 1) := dqr0 dqK_172 dqw_cX7_told_146 9 rfl rfl
theorem dX7_told_156 : decode cX7_told 156 = .ok (.aload_n 0, 1) := dqr0 dqK_42 dqw_cX7_told_146 10 rfl rfl
theorem dX7_told_157 : decode cX7_told 157 = .ok (.aload_n 0, 1) := dqr0 dqK_42 dqw_cX7_told_146 11 rfl rfl
theorem dX7_told_158 : decode cX7_told 158 = .ok (.getfield 25, 3) := dqr2 dqK_180 dqw_cX7_told_146 12 rfl rfl rfl rfl rfl
theorem dX7_told_161 : decode cX7_told 161 = .ok (.iload_n 1, 1) := dqr0 dqK_27 dqw_cX7_told_146 15 rfl rfl
theorem dX7_told_162 : decode cX7_told 162 = .ok (.iaload, 1) := dqr0 dqK_46 dqw_cX7_told_146 16 rfl rfl
theorem dX7_told_163 : decode cX7_told 163 = .ok (.aload_n 0, 1) := dqr0 dqK_42 dqw_cX7_told_146 17 rfl rfl
theorem dX7_told_164 : decode cX7_told 164 = .ok (.getfield 28, 3) := dqr2 dqK_180 dqw_cX7_told_146 18 rfl rfl rfl rfl rfl
theorem dX7_told_167 : decode cX7_told 167 = .ok (.iload_n 1, 1) := dqr0 dqK_27 dqw_cX7_told_146 21 rfl rfl
theorem dX7_told_168 : decode cX7_told 168 = .ok (.iaload, 1) := dqr0 dqK_46 dqw_cX7_told_146 22 rfl rfl
theorem dX7_told_169 : decode cX7_told 169 = .ok (.aload_n 0, 1) := dqr0 dqK_42 dqw_cX7_told_146 23 rfl rfl
theorem dqw_cX7_told_170 : dqLF cX7_told 170 [180, 0, 34, 27, 46, 182, 0, 182, 172, 2, 172] := by decide +kernel
theorem dX7_told_170 : decode cX7_told 170 = .ok (.getfield 34, 3) := dqr2 dqK_180 dqw_cX7_told_170 0 rfl rfl rfl rfl rfl
theorem dX7_told_173 : decode cX7_told 173 = .ok (.iload_n 1, 1) := dqr0 dqK_27 dqw_cX7_told_170 3 rfl rfl
theorem dX7_told_174 : decode cX7_told 174 = .ok (.iaload, 1) := dqr0 dqK_46 dqw_cX7_told_170 4 rfl rfl
theorem dX7_told_175 : decode cX7_told 175 = .ok (.invokevirtual 182, 3) := dqr2 dqK_182 dqw_cX7_told_170 5 rfl rfl rfl rfl rfl
theorem dX7_told_178 : decode cX7_told 178 = .ok (.ireturn, 1) := dqr0 dqK_172 dqw_cX7_told_170 8 rfl rfl
theorem dX7_told_179 : decode cX7_told 179 = .ok (.iconst (-1), 1) := dqr0 dqK_2 dqw_cX7_told_170 9 rfl rfl
theorem dX7_told_180 : decode cX7_told 180 = .ok (.ireturn, 1) := dqr0 dqK_172 dqw_cX7_told_170 10 rfl rfl
theorem dqw_cX7_mends_0 : dqLF cX7_mends 0 [6, 61, 3, 62, 3, 54, 4, 3, 54, 5, 21, 5, 42, 180, 0, 144, 162, 0, 98, 3, 54, 6, 21, 6] := by decide +kernel
theorem dX7_mends_0 : decode cX7_mends 0 = .ok (.iconst 3, 1) := dqr0 dqK_6 dqw_cX7_mends_0 0 rfl rfl
theorem dX7_mends_1 : decode cX7_mends 1 = .ok (.istore_n 2, 1) := dqr0 dqK_61 dqw_cX7_mends_0 1 rfl rfl
theorem dX7_mends_2 : decode cX7_mends 2 = .ok (.iconst 0, 1) := dqr0 dqK_3 dqw_cX7_mends_0 2 rfl rfl
theorem dX7_mends_3 : decode cX7_mends 3 = .ok (.istore_n 3, 1) := dqr0 dqK_62 dqw_cX7_mends_0 3 rfl rfl
theorem dX7_mends_4 : decode cX7_mends 4 = .ok (.iconst 0, 1) := dqr0 dqK_3 dqw_cX7_mends_0 4 rfl rfl
theorem dX7_mends_5 : decode cX7_mends 5 = .ok (.istore 4, 2) := dqr1 dqK_54 dqw_cX7_mends_0 5 rfl rfl rfl
theorem dX7_mends_7 : decode cX7_mends 7 = .ok (.iconst 0, 1) := dqr0 dqK_3 dqw_cX7_mends_0 7 rfl rfl
theorem dX7_mends_8 : decode cX7_mends 8 = .ok (.istore 5, 2) := dqr1 dqK_54 dqw_cX7_mends_0 8 rfl rfl rfl
theorem dX7_mends_10 : decode cX7_mends 10 = .ok (.iload 5, 2) := dqr1 dqK_21 dqw_cX7_mends_0 10 rfl rfl rfl
theorem dX7_mends_12 : decode cX7_mends 12 = .ok (.aload_n 0, 1) := dqr0 dqK_42 dqw_cX7_mends_0 12 rfl rfl
theorem dX7_mends_13 : decode cX7_mends 13 = .ok (.getfield 144, 3) := dqr2 dqK_180 dqw_cX7_mends_0 13 rfl rfl rfl rfl rfl
theorem dX7_mends_16 : decode cX7_mends 16 = .ok (.if_icmp .ge 98, 3) := dqrs2 dqK_162 dqw_cX7_mends_0 16 rfl rfl rfl rfl (by decide)
theorem dX7_mends_19 : decode cX7_mends 19 = .ok (.iconst 0, 1) := dqr0 dqK_3 dqw_cX7_mends_0 19 rfl rfl
theorem dX7_mends_20 : decode cX7_mends 20 = .ok (.istore 6, 2) := dqr1 dqK_54 dqw_cX7_mends_0 20 rfl rfl rfl
theorem dX7_mends_22 : decode cX7_mends 22 = .ok (.iload 6, 2) := dqr1 dqK_21 dqw_cX7_mends_0 22 rfl rfl rfl
theorem dqw_cX7_mends_24 : dqLF cX7_mends 24 [42, 180, 0, 144, 162, 0, 80, 21, 5, 42, 180, 0, 25, 27, 46, 160, 0, 7, 3, 167, 0, 4, 4] := by decide +kernel
theorem dX7_mends_24 : decode cX7_mends 24 = .ok (.aload_n 0, 1) := dqr0 dqK_42 dqw_cX7_mends_24 0 rfl rfl
theorem dX7_mends_25 : decode cX7_mends 25 = .ok (.getfield 144, 3) := dqr2 dqK_180 dqw_cX7_mends_24 1 rfl rfl rfl rfl rfl
theorem dX7_mends_28 : decode cX7_mends 28 = .ok (.if_icmp .ge 80, 3) := dqrs2 dqK_162 dqw_cX7_mends_24 4 rfl rfl rfl rfl (by decide)
theorem dX7_mends_31 : decode cX7_mends 31 = .ok (.iload 5, 2) := dqr1 dqK_21 dqw_cX7_mends_24 7 rfl rfl rfl
theorem dX7_mends_33 : decode cX7_mends 33 = .ok (.aload_n 0, 1) := dqr0 dqK_42 dqw_cX7_mends_24 9 rfl rfl
theorem dX7_mends_34 : decode cX7_mends 34 = .ok (.getfield 25, 3) := dqr2 dqK_180 dqw_cX7_mends_24 10 rfl rfl rfl rfl rfl
theorem dX7_mends_37 : decode cX7_mends 37 = .ok (.iload_n 1, 1) := dqr0 dqK_27 dqw_cX7_mends_24 13 rfl rfl
theorem dX7_mends_38 : decode cX7_mends 38 = .ok (.iaload, 1) := dqr0 dqK_46 dqw_cX7_mends_24 14 rfl rfl
theorem dX7_mends_39 : decode cX7_mends 39 = .ok (.if_icmp .ne 7, 3) := dqrs2 dqK_160 dqw_cX7_mends_24 15 rfl rfl rfl rfl (by decide)
theorem dX7_mends_42 : decode cX7_mends 42 = .ok (.iconst 0, 1) := dqr0 dqK_3 dqw_cX7_mends_24 18 rfl rfl
theorem dX7_mends_43 : decode cX7_mends 43 = .ok (.goto 4, 3) := dqrs2 dqK_167 dqw_cX7_mends_24 19 rfl rfl rfl rfl (by decide)
theorem dX7_mends_46 : decode cX7_mends 46 = .ok (.iconst 1, 1) := dqr0 dqK_4 dqw_cX7_mends_24 22 rfl rfl
theorem dqw_cX7_mends_47 : dqLF cX7_mends 47 [21, 6, 42, 180, 0, 28, 27, 46, 160, 0, 7, 3, 167, 0, 4, 4, 96, 54, 7, 21, 7, 28] := by decide +kernel
theorem dX7_mends_47 : decode cX7_mends 47 = .ok (.iload 6, 2) := dqr1 dqK_21 dqw_cX7_mends_47 0 rfl rfl rfl
theorem dX7_mends_49 : decode cX7_mends 49 = .ok (.aload_n 0, 1) := dqr0 dqK_42 dqw_cX7_mends_47 2 rfl rfl
theorem dX7_mends_50 : decode cX7_mends 50 = .ok (.getfield 28, 3) := dqr2 dqK_180 dqw_cX7_mends_47 3 rfl rfl rfl rfl rfl
theorem dX7_mends_53 : decode cX7_mends 53 = .ok (.iload_n 1, 1) := dqr0 dqK_27 dqw_cX7_mends_47 6 rfl rfl
theorem dX7_mends_54 : decode cX7_mends 54 = .ok (.iaload, 1) := dqr0 dqK_46 dqw_cX7_mends_47 7 rfl rfl
theorem dX7_mends_55 : decode cX7_mends 55 = .ok (.if_icmp .ne 7, 3) := dqrs2 dqK_160 dqw_cX7_mends_47 8 rfl rfl rfl rfl (by decide)
theorem dX7_mends_58 : decode cX7_mends 58 = .ok (.iconst 0, 1) := dqr0 dqK_3 dqw_cX7_mends_47 11 rfl rfl
theorem dX7_mends_59 : decode cX7_mends 59 = .ok (.goto 4, 3) := dqrs2 dqK_167 dqw_cX7_mends_47 12 rfl rfl rfl rfl (by decide)
theorem dX7_mends_62 : decode cX7_mends 62 = .ok (.iconst 1, 1) := dqr0 dqK_4 dqw_cX7_mends_47 15 rfl rfl
theorem dX7_mends_63 : decode cX7_mends 63 = .ok (.iadd, 1) := dqr0 dqK_96 dqw_cX7_mends_47 16 rfl rfl
theorem dX7_mends_64 : decode cX7_mends 64 = .ok (.istore 7, 2) := dqr1 dqK_54 dqw_cX7_mends_47 17 rfl rfl rfl
theorem dX7_mends_66 : decode cX7_mends 66 = .ok (.iload 7, 2) := dqr1 dqK_21 dqw_cX7_mends_47 19 rfl rfl rfl
theorem dX7_mends_68 : decode cX7_mends 68 = .ok (.iload_n 2, 1) := dqr0 dqK_28 dqw_cX7_mends_47 21 rfl rfl
theorem dqw_cX7_mends_69 : dqLF cX7_mends 69 [162, 0, 33, 42, 21, 5, 21, 6, 42, 180, 0, 34, 27, 46, 182, 0, 189, 154, 0, 6, 167, 0, 13] := by decide +kernel
theorem dX7_mends_69 : decode cX7_mends 69 = .ok (.if_icmp .ge 33, 3) := dqrs2 dqK_162 dqw_cX7_mends_69 0 rfl rfl rfl rfl (by decide)
theorem dX7_mends_72 : decode cX7_mends 72 = .ok (.aload_n 0, 1) := dqr0 dqK_42 dqw_cX7_mends_69 3 rfl rfl
theorem dX7_mends_73 : decode cX7_mends 73 = .ok (.iload 5, 2) := dqr1 dqK_21 dqw_cX7_mends_69 4 rfl rfl rfl
theorem dX7_mends_75 : decode cX7_mends 75 = .ok (.iload 6, 2) := dqr1 dqK_21 dqw_cX7_mends_69 6 rfl rfl rfl
theorem dX7_mends_77 : decode cX7_mends 77 = .ok (.aload_n 0, 1) := dqr0 dqK_42 dqw_cX7_mends_69 8 rfl rfl
theorem dX7_mends_78 : decode cX7_mends 78 = .ok (.getfield 34, 3) := dqr2 dqK_180 dqw_cX7_mends_69 9 rfl rfl rfl rfl rfl
theorem dX7_mends_81 : decode cX7_mends 81 = .ok (.iload_n 1, 1) := dqr0 dqK_27 dqw_cX7_mends_69 12 rfl rfl
theorem dX7_mends_82 : decode cX7_mends 82 = .ok (.iaload, 1) := dqr0 dqK_46 dqw_cX7_mends_69 13 rfl rfl
theorem dX7_mends_83 : decode cX7_mends 83 = .ok (.invokevirtual 189, 3) := dqr2 dqK_182 dqw_cX7_mends_69 14 rfl rfl rfl rfl rfl
theorem dX7_mends_86 : decode cX7_mends 86 = .ok (.ifCond .ne 6, 3) := dqrs2 dqK_154 dqw_cX7_mends_69 17 rfl rfl rfl rfl (by decide)
theorem dX7_mends_89 : decode cX7_mends 89 = .ok (.goto 13, 3) := dqrs2 dqK_167 dqw_cX7_mends_69 20 rfl rfl rfl rfl (by decide)
theorem dqw_cX7_mends_92 : dqLF cX7_mends 92 [21, 7, 61, 21, 5, 62, 21, 6, 54, 4, 132, 6, 1, 167, 255, 173, 132, 5, 1, 167, 255, 155, 28, 6] := by decide +kernel
theorem dX7_mends_92 : decode cX7_mends 92 = .ok (.iload 7, 2) := dqr1 dqK_21 dqw_cX7_mends_92 0 rfl rfl rfl
theorem dX7_mends_94 : decode cX7_mends 94 = .ok (.istore_n 2, 1) := dqr0 dqK_61 dqw_cX7_mends_92 2 rfl rfl
theorem dX7_mends_95 : decode cX7_mends 95 = .ok (.iload 5, 2) := dqr1 dqK_21 dqw_cX7_mends_92 3 rfl rfl rfl
theorem dX7_mends_97 : decode cX7_mends 97 = .ok (.istore_n 3, 1) := dqr0 dqK_62 dqw_cX7_mends_92 5 rfl rfl
theorem dX7_mends_98 : decode cX7_mends 98 = .ok (.iload 6, 2) := dqr1 dqK_21 dqw_cX7_mends_92 6 rfl rfl rfl
theorem dX7_mends_100 : decode cX7_mends 100 = .ok (.istore 4, 2) := dqr1 dqK_54 dqw_cX7_mends_92 8 rfl rfl rfl
theorem dX7_mends_102 : decode cX7_mends 102 = .ok (.iinc 6 1, 3) := dqri dqK_132 dqw_cX7_mends_92 10 rfl rfl rfl rfl (by decide)
theorem dX7_mends_105 : decode cX7_mends 105 = .ok (.goto (-83), 3) := dqrs2 dqK_167 dqw_cX7_mends_92 13 rfl rfl rfl rfl (by decide)
theorem dX7_mends_108 : decode cX7_mends 108 = .ok (.iinc 5 1, 3) := dqri dqK_132 dqw_cX7_mends_92 16 rfl rfl rfl rfl (by decide)
theorem dX7_mends_111 : decode cX7_mends 111 = .ok (.goto (-101), 3) := dqrs2 dqK_167 dqw_cX7_mends_92 19 rfl rfl rfl rfl (by decide)
theorem dX7_mends_114 : decode cX7_mends 114 = .ok (.iload_n 2, 1) := dqr0 dqK_28 dqw_cX7_mends_92 22 rfl rfl
theorem dX7_mends_115 : decode cX7_mends 115 = .ok (.iconst 3, 1) := dqr0 dqK_6 dqw_cX7_mends_92 23 rfl rfl
theorem dqw_cX7_mends_116 : dqLF cX7_mends 116 [160, 0, 5, 3, 172, 42, 180, 0, 25, 27, 29, 79, 42, 180, 0, 28, 27, 21, 4, 79, 4, 172] := by decide +kernel
theorem dX7_mends_116 : decode cX7_mends 116 = .ok (.if_icmp .ne 5, 3) := dqrs2 dqK_160 dqw_cX7_mends_116 0 rfl rfl rfl rfl (by decide)
theorem dX7_mends_119 : decode cX7_mends 119 = .ok (.iconst 0, 1) := dqr0 dqK_3 dqw_cX7_mends_116 3 rfl rfl
theorem dX7_mends_120 : decode cX7_mends 120 = .ok (.ireturn, 1) := dqr0 dqK_172 dqw_cX7_mends_116 4 rfl rfl
theorem dX7_mends_121 : decode cX7_mends 121 = .ok (.aload_n 0, 1) := dqr0 dqK_42 dqw_cX7_mends_116 5 rfl rfl
theorem dX7_mends_122 : decode cX7_mends 122 = .ok (.getfield 25, 3) := dqr2 dqK_180 dqw_cX7_mends_116 6 rfl rfl rfl rfl rfl
theorem dX7_mends_125 : decode cX7_mends 125 = .ok (.iload_n 1, 1) := dqr0 dqK_27 dqw_cX7_mends_116 9 rfl rfl
theorem dX7_mends_126 : decode cX7_mends 126 = .ok (.iload_n 3, 1) := dqr0 dqK_29 dqw_cX7_mends_116 10 rfl rfl
theorem dX7_mends_127 : decode cX7_mends 127 = .ok (.iastore, 1) := dqr0 dqK_79 dqw_cX7_mends_116 11 rfl rfl
theorem dX7_mends_128 : decode cX7_mends 128 = .ok (.aload_n 0, 1) := dqr0 dqK_42 dqw_cX7_mends_116 12 rfl rfl
theorem dX7_mends_129 : decode cX7_mends 129 = .ok (.getfield 28, 3) := dqr2 dqK_180 dqw_cX7_mends_116 13 rfl rfl rfl rfl rfl
theorem dX7_mends_132 : decode cX7_mends 132 = .ok (.iload_n 1, 1) := dqr0 dqK_27 dqw_cX7_mends_116 16 rfl rfl
theorem dX7_mends_133 : decode cX7_mends 133 = .ok (.iload 4, 2) := dqr1 dqK_21 dqw_cX7_mends_116 17 rfl rfl rfl
theorem dX7_mends_135 : decode cX7_mends 135 = .ok (.iastore, 1) := dqr0 dqK_79 dqw_cX7_mends_116 19 rfl rfl
theorem dX7_mends_136 : decode cX7_mends 136 = .ok (.iconst 1, 1) := dqr0 dqK_4 dqw_cX7_mends_116 20 rfl rfl
theorem dX7_mends_137 : decode cX7_mends 137 = .ok (.ireturn, 1) := dqr0 dqK_172 dqw_cX7_mends_116 21 rfl rfl
theorem dqw_cX7_swap_0 : dqLF cX7_swap 0 [27, 184, 0, 158, 153, 0, 10, 28, 184, 0, 158, 154, 0, 5, 2, 172, 27, 28, 160, 0, 6, 16, 254, 172] := by decide +kernel
theorem dX7_swap_0 : decode cX7_swap 0 = .ok (.iload_n 1, 1) := dqr0 dqK_27 dqw_cX7_swap_0 0 rfl rfl
theorem dX7_swap_1 : decode cX7_swap 1 = .ok (.invokestatic 158, 3) := dqr2 dqK_184 dqw_cX7_swap_0 1 rfl rfl rfl rfl rfl
theorem dX7_swap_4 : decode cX7_swap 4 = .ok (.ifCond .eq 10, 3) := dqrs2 dqK_153 dqw_cX7_swap_0 4 rfl rfl rfl rfl (by decide)
theorem dX7_swap_7 : decode cX7_swap 7 = .ok (.iload_n 2, 1) := dqr0 dqK_28 dqw_cX7_swap_0 7 rfl rfl
theorem dX7_swap_8 : decode cX7_swap 8 = .ok (.invokestatic 158, 3) := dqr2 dqK_184 dqw_cX7_swap_0 8 rfl rfl rfl rfl rfl
theorem dX7_swap_11 : decode cX7_swap 11 = .ok (.ifCond .ne 5, 3) := dqrs2 dqK_154 dqw_cX7_swap_0 11 rfl rfl rfl rfl (by decide)
theorem dX7_swap_14 : decode cX7_swap 14 = .ok (.iconst (-1), 1) := dqr0 dqK_2 dqw_cX7_swap_0 14 rfl rfl
theorem dX7_swap_15 : decode cX7_swap 15 = .ok (.ireturn, 1) := dqr0 dqK_172 dqw_cX7_swap_0 15 rfl rfl
theorem dX7_swap_16 : decode cX7_swap 16 = .ok (.iload_n 1, 1) := dqr0 dqK_27 dqw_cX7_swap_0 16 rfl rfl
theorem dX7_swap_17 : decode cX7_swap 17 = .ok (.iload_n 2, 1) := dqr0 dqK_28 dqw_cX7_swap_0 17 rfl rfl
theorem dX7_swap_18 : decode cX7_swap 18 = .ok (.if_icmp .ne 6, 3) := dqrs2 dqK_160 dqw_cX7_swap_0 18 rfl rfl rfl rfl (by decide)
theorem dX7_swap_21 : decode cX7_swap 21 = .ok (.bipush (-2), 2) := dqrs1 dqK_16 dqw_cX7_swap_0 21 rfl rfl rfl (by decide)
theorem dX7_swap_23 : decode cX7_swap 23 = .ok (.ireturn, 1) := dqr0 dqK_172 dqw_cX7_swap_0 23 rfl rfl
theorem dqw_cX7_swap_24 : dqLF cX7_swap 24 [42, 3, 181, 0, 193, 3, 62, 3, 54, 4, 21, 4, 42, 180, 0, 147, 162, 0, 92, 42, 180, 0, 34] := by decide +kernel
theorem dX7_swap_24 : decode cX7_swap 24 = .ok (.aload_n 0, 1) := dqr0 dqK_42 dqw_cX7_swap_24 0 rfl rfl
theorem dX7_swap_25 : decode cX7_swap 25 = .ok (.iconst 0, 1) := dqr0 dqK_3 dqw_cX7_swap_24 1 rfl rfl
theorem dX7_swap_26 : decode cX7_swap 26 = .ok (.putfield 193, 3) := dqr2 dqK_181 dqw_cX7_swap_24 2 rfl rfl rfl rfl rfl
theorem dX7_swap_29 : decode cX7_swap 29 = .ok (.iconst 0, 1) := dqr0 dqK_3 dqw_cX7_swap_24 5 rfl rfl
theorem dX7_swap_30 : decode cX7_swap 30 = .ok (.istore_n 3, 1) := dqr0 dqK_62 dqw_cX7_swap_24 6 rfl rfl
theorem dX7_swap_31 : decode cX7_swap 31 = .ok (.iconst 0, 1) := dqr0 dqK_3 dqw_cX7_swap_24 7 rfl rfl
theorem dX7_swap_32 : decode cX7_swap 32 = .ok (.istore 4, 2) := dqr1 dqK_54 dqw_cX7_swap_24 8 rfl rfl rfl
theorem dX7_swap_34 : decode cX7_swap 34 = .ok (.iload 4, 2) := dqr1 dqK_21 dqw_cX7_swap_24 10 rfl rfl rfl
theorem dX7_swap_36 : decode cX7_swap 36 = .ok (.aload_n 0, 1) := dqr0 dqK_42 dqw_cX7_swap_24 12 rfl rfl
theorem dX7_swap_37 : decode cX7_swap 37 = .ok (.getfield 147, 3) := dqr2 dqK_180 dqw_cX7_swap_24 13 rfl rfl rfl rfl rfl
theorem dX7_swap_40 : decode cX7_swap 40 = .ok (.if_icmp .ge 92, 3) := dqrs2 dqK_162 dqw_cX7_swap_24 16 rfl rfl rfl rfl (by decide)
theorem dX7_swap_43 : decode cX7_swap 43 = .ok (.aload_n 0, 1) := dqr0 dqK_42 dqw_cX7_swap_24 19 rfl rfl
theorem dX7_swap_44 : decode cX7_swap 44 = .ok (.getfield 34, 3) := dqr2 dqK_180 dqw_cX7_swap_24 20 rfl rfl rfl rfl rfl
theorem dqw_cX7_swap_47 : dqLF cX7_swap 47 [21, 4, 46, 27, 159, 0, 6, 167, 0, 72, 42, 180, 0, 34, 21, 4, 28, 79, 42, 42, 180, 0, 25] := by decide +kernel
theorem dX7_swap_47 : decode cX7_swap 47 = .ok (.iload 4, 2) := dqr1 dqK_21 dqw_cX7_swap_47 0 rfl rfl rfl
theorem dX7_swap_49 : decode cX7_swap 49 = .ok (.iaload, 1) := dqr0 dqK_46 dqw_cX7_swap_47 2 rfl rfl
theorem dX7_swap_50 : decode cX7_swap 50 = .ok (.iload_n 1, 1) := dqr0 dqK_27 dqw_cX7_swap_47 3 rfl rfl
theorem dX7_swap_51 : decode cX7_swap 51 = .ok (.if_icmp .eq 6, 3) := dqrs2 dqK_159 dqw_cX7_swap_47 4 rfl rfl rfl rfl (by decide)
theorem dX7_swap_54 : decode cX7_swap 54 = .ok (.goto 72, 3) := dqrs2 dqK_167 dqw_cX7_swap_47 7 rfl rfl rfl rfl (by decide)
theorem dX7_swap_57 : decode cX7_swap 57 = .ok (.aload_n 0, 1) := dqr0 dqK_42 dqw_cX7_swap_47 10 rfl rfl
theorem dX7_swap_58 : decode cX7_swap 58 = .ok (.getfield 34, 3) := dqr2 dqK_180 dqw_cX7_swap_47 11 rfl rfl rfl rfl rfl
theorem dX7_swap_61 : decode cX7_swap 61 = .ok (.iload 4, 2) := dqr1 dqK_21 dqw_cX7_swap_47 14 rfl rfl rfl
theorem dX7_swap_63 : decode cX7_swap 63 = .ok (.iload_n 2, 1) := dqr0 dqK_28 dqw_cX7_swap_47 16 rfl rfl
theorem dX7_swap_64 : decode cX7_swap 64 = .ok (.iastore, 1) := dqr0 dqK_79 dqw_cX7_swap_47 17 rfl rfl
theorem dX7_swap_65 : decode cX7_swap 65 = .ok (.aload_n 0, 1) := dqr0 dqK_42 dqw_cX7_swap_47 18 rfl rfl
theorem dX7_swap_66 : decode cX7_swap 66 = .ok (.aload_n 0, 1) := dqr0 dqK_42 dqw_cX7_swap_47 19 rfl rfl
theorem dX7_swap_67 : decode cX7_swap 67 = .ok (.getfield 25, 3) := dqr2 dqK_180 dqw_cX7_swap_47 20 rfl rfl rfl rfl rfl
theorem dqw_cX7_swap_70 : dqLF cX7_swap 70 [21, 4, 46, 42, 180, 0, 28, 21, 4, 46, 28, 182, 0, 189, 153, 0, 6, 167, 0, 39, 42, 21, 4] := by decide +kernel
theorem dX7_swap_70 : decode cX7_swap 70 = .ok (.iload 4, 2) := dqr1 dqK_21 dqw_cX7_swap_70 0 rfl rfl rfl
theorem dX7_swap_72 : decode cX7_swap 72 = .ok (.iaload, 1) := dqr0 dqK_46 dqw_cX7_swap_70 2 rfl rfl
theorem dX7_swap_73 : decode cX7_swap 73 = .ok (.aload_n 0, 1) := dqr0 dqK_42 dqw_cX7_swap_70 3 rfl rfl
theorem dX7_swap_74 : decode cX7_swap 74 = .ok (.getfield 28, 3) := dqr2 dqK_180 dqw_cX7_swap_70 4 rfl rfl rfl rfl rfl
theorem dX7_swap_77 : decode cX7_swap 77 = .ok (.iload 4, 2) := dqr1 dqK_21 dqw_cX7_swap_70 7 rfl rfl rfl
theorem dX7_swap_79 : decode cX7_swap 79 = .ok (.iaload, 1) := dqr0 dqK_46 dqw_cX7_swap_70 9 rfl rfl
theorem dX7_swap_80 : decode cX7_swap 80 = .ok (.iload_n 2, 1) := dqr0 dqK_28 dqw_cX7_swap_70 10 rfl rfl
theorem dX7_swap_81 : decode cX7_swap 81 = .ok (.invokevirtual 189, 3) := dqr2 dqK_182 dqw_cX7_swap_70 11 rfl rfl rfl rfl rfl
theorem dX7_swap_84 : decode cX7_swap 84 = .ok (.ifCond .eq 6, 3) := dqrs2 dqK_153 dqw_cX7_swap_70 14 rfl rfl rfl rfl (by decide)
theorem dX7_swap_87 : decode cX7_swap 87 = .ok (.goto 39, 3) := dqrs2 dqK_167 dqw_cX7_swap_70 17 rfl rfl rfl rfl (by decide)
theorem dX7_swap_90 : decode cX7_swap 90 = .ok (.aload_n 0, 1) := dqr0 dqK_42 dqw_cX7_swap_70 20 rfl rfl
theorem dX7_swap_91 : decode cX7_swap 91 = .ok (.iload 4, 2) := dqr1 dqK_21 dqw_cX7_swap_70 21 rfl rfl rfl
theorem dqw_cX7_swap_93 : dqLF cX7_swap 93 [182, 0, 196, 153, 0, 9, 132, 3, 1, 167, 0, 24, 42, 180, 0, 43, 42, 180, 0, 193, 21, 4, 79, 42] := by decide +kernel
theorem dX7_swap_93 : decode cX7_swap 93 = .ok (.invokevirtual 196, 3) := dqr2 dqK_182 dqw_cX7_swap_93 0 rfl rfl rfl rfl rfl
theorem dX7_swap_96 : decode cX7_swap 96 = .ok (.ifCond .eq 9, 3) := dqrs2 dqK_153 dqw_cX7_swap_93 3 rfl rfl rfl rfl (by decide)
theorem dX7_swap_99 : decode cX7_swap 99 = .ok (.iinc 3 1, 3) := dqri dqK_132 dqw_cX7_swap_93 6 rfl rfl rfl rfl (by decide)
theorem dX7_swap_102 : decode cX7_swap 102 = .ok (.goto 24, 3) := dqrs2 dqK_167 dqw_cX7_swap_93 9 rfl rfl rfl rfl (by decide)
theorem dX7_swap_105 : decode cX7_swap 105 = .ok (.aload_n 0, 1) := dqr0 dqK_42 dqw_cX7_swap_93 12 rfl rfl
theorem dX7_swap_106 : decode cX7_swap 106 = .ok (.getfield 43, 3) := dqr2 dqK_180 dqw_cX7_swap_93 13 rfl rfl rfl rfl rfl
theorem dX7_swap_109 : decode cX7_swap 109 = .ok (.aload_n 0, 1) := dqr0 dqK_42 dqw_cX7_swap_93 16 rfl rfl
theorem dX7_swap_110 : decode cX7_swap 110 = .ok (.getfield 193, 3) := dqr2 dqK_180 dqw_cX7_swap_93 17 rfl rfl rfl rfl rfl
theorem dX7_swap_113 : decode cX7_swap 113 = .ok (.iload 4, 2) := dqr1 dqK_21 dqw_cX7_swap_93 20 rfl rfl rfl
theorem dX7_swap_115 : decode cX7_swap 115 = .ok (.iastore, 1) := dqr0 dqK_79 dqw_cX7_swap_93 22 rfl rfl
theorem dX7_swap_116 : decode cX7_swap 116 = .ok (.aload_n 0, 1) := dqr0 dqK_42 dqw_cX7_swap_93 23 rfl rfl
theorem dqw_cX7_swap_117 : dqLF cX7_swap 117 [89, 180, 0, 193, 4, 96, 181, 0, 193, 132, 4, 1, 167, 255, 161, 29, 172] := by decide +kernel
theorem dX7_swap_117 : decode cX7_swap 117 = .ok (.dup, 1) := dqr0 dqK_89 dqw_cX7_swap_117 0 rfl rfl
theorem dX7_swap_118 : decode cX7_swap 118 = .ok (.getfield 193, 3) := dqr2 dqK_180 dqw_cX7_swap_117 1 rfl rfl rfl rfl rfl
theorem dX7_swap_121 : decode cX7_swap 121 = .ok (.iconst 1, 1) := dqr0 dqK_4 dqw_cX7_swap_117 4 rfl rfl
theorem dX7_swap_122 : decode cX7_swap 122 = .ok (.iadd, 1) := dqr0 dqK_96 dqw_cX7_swap_117 5 rfl rfl
theorem dX7_swap_123 : decode cX7_swap 123 = .ok (.putfield 193, 3) := dqr2 dqK_181 dqw_cX7_swap_117 6 rfl rfl rfl rfl rfl
theorem dX7_swap_126 : decode cX7_swap 126 = .ok (.iinc 4 1, 3) := dqri dqK_132 dqw_cX7_swap_117 9 rfl rfl rfl rfl (by decide)
theorem dX7_swap_129 : decode cX7_swap 129 = .ok (.goto (-95), 3) := dqrs2 dqK_167 dqw_cX7_swap_117 12 rfl rfl rfl rfl (by decide)
theorem dX7_swap_132 : decode cX7_swap 132 = .ok (.iload_n 3, 1) := dqr0 dqK_29 dqw_cX7_swap_117 15 rfl rfl
theorem dX7_swap_133 : decode cX7_swap 133 = .ok (.ireturn, 1) := dqr0 dqK_172 dqw_cX7_swap_117 16 rfl rfl
theorem dqw_cX7_broken_0 : dqLF cX7_broken 0 [27, 2, 160, 0, 10, 42, 180, 0, 193, 167, 0, 29, 27, 133, 9, 42, 180, 0, 193, 4, 100, 133] := by decide +kernel
theorem dX7_broken_0 : decode cX7_broken 0 = .ok (.iload_n 1, 1) := dqr0 dqK_27 dqw_cX7_broken_0 0 rfl rfl
theorem dX7_broken_1 : decode cX7_broken 1 = .ok (.iconst (-1), 1) := dqr0 dqK_2 dqw_cX7_broken_0 1 rfl rfl
theorem dX7_broken_2 : decode cX7_broken 2 = .ok (.if_icmp .ne 10, 3) := dqrs2 dqK_160 dqw_cX7_broken_0 2 rfl rfl rfl rfl (by decide)
theorem dX7_broken_5 : decode cX7_broken 5 = .ok (.aload_n 0, 1) := dqr0 dqK_42 dqw_cX7_broken_0 5 rfl rfl
theorem dX7_broken_6 : decode cX7_broken 6 = .ok (.getfield 193, 3) := dqr2 dqK_180 dqw_cX7_broken_0 6 rfl rfl rfl rfl rfl
theorem dX7_broken_9 : decode cX7_broken 9 = .ok (.goto 29, 3) := dqrs2 dqK_167 dqw_cX7_broken_0 9 rfl rfl rfl rfl (by decide)
theorem dX7_broken_12 : decode cX7_broken 12 = .ok (.iload_n 1, 1) := dqr0 dqK_27 dqw_cX7_broken_0 12 rfl rfl
theorem dX7_broken_13 : decode cX7_broken 13 = .ok (.i2l, 1) := dqr0 dqK_133 dqw_cX7_broken_0 13 rfl rfl
theorem dX7_broken_14 : decode cX7_broken 14 = .ok (.lconst 0, 1) := dqr0 dqK_9 dqw_cX7_broken_0 14 rfl rfl
theorem dX7_broken_15 : decode cX7_broken 15 = .ok (.aload_n 0, 1) := dqr0 dqK_42 dqw_cX7_broken_0 15 rfl rfl
theorem dX7_broken_16 : decode cX7_broken 16 = .ok (.getfield 193, 3) := dqr2 dqK_180 dqw_cX7_broken_0 16 rfl rfl rfl rfl rfl
theorem dX7_broken_19 : decode cX7_broken 19 = .ok (.iconst 1, 1) := dqr0 dqK_4 dqw_cX7_broken_0 19 rfl rfl
theorem dX7_broken_20 : decode cX7_broken 20 = .ok (.isub, 1) := dqr0 dqK_100 dqw_cX7_broken_0 20 rfl rfl
theorem dX7_broken_21 : decode cX7_broken 21 = .ok (.i2l, 1) := dqr0 dqK_133 dqw_cX7_broken_0 21 rfl rfl
theorem dqw_cX7_broken_22 : dqLF cX7_broken 22 [184, 0, 152, 153, 0, 12, 42, 180, 0, 43, 27, 46, 167, 0, 4, 2, 172] := by decide +kernel
theorem dX7_broken_22 : decode cX7_broken 22 = .ok (.invokestatic 152, 3) := dqr2 dqK_184 dqw_cX7_broken_22 0 rfl rfl rfl rfl rfl
theorem dX7_broken_25 : decode cX7_broken 25 = .ok (.ifCond .eq 12, 3) := dqrs2 dqK_153 dqw_cX7_broken_22 3 rfl rfl rfl rfl (by decide)
theorem dX7_broken_28 : decode cX7_broken 28 = .ok (.aload_n 0, 1) := dqr0 dqK_42 dqw_cX7_broken_22 6 rfl rfl
theorem dX7_broken_29 : decode cX7_broken 29 = .ok (.getfield 43, 3) := dqr2 dqK_180 dqw_cX7_broken_22 7 rfl rfl rfl rfl rfl
theorem dX7_broken_32 : decode cX7_broken 32 = .ok (.iload_n 1, 1) := dqr0 dqK_27 dqw_cX7_broken_22 10 rfl rfl
theorem dX7_broken_33 : decode cX7_broken 33 = .ok (.iaload, 1) := dqr0 dqK_46 dqw_cX7_broken_22 11 rfl rfl
theorem dX7_broken_34 : decode cX7_broken 34 = .ok (.goto 4, 3) := dqrs2 dqK_167 dqw_cX7_broken_22 12 rfl rfl rfl rfl (by decide)
theorem dX7_broken_37 : decode cX7_broken 37 = .ok (.iconst (-1), 1) := dqr0 dqK_2 dqw_cX7_broken_22 15 rfl rfl
theorem dX7_broken_38 : decode cX7_broken 38 = .ok (.ireturn, 1) := dqr0 dqK_172 dqw_cX7_broken_22 16 rfl rfl
theorem dqw_cX7_feed_0 : dqLF cX7_feed 0 [29, 133, 10, 20, 0, 150, 184, 0, 152, 154, 0, 6, 16, 254, 172, 42, 180, 0, 199, 29, 96, 16, 60] := by decide +kernel
theorem dX7_feed_0 : decode cX7_feed 0 = .ok (.iload_n 3, 1) := dqr0 dqK_29 dqw_cX7_feed_0 0 rfl rfl
theorem dX7_feed_1 : decode cX7_feed 1 = .ok (.i2l, 1) := dqr0 dqK_133 dqw_cX7_feed_0 1 rfl rfl
theorem dX7_feed_2 : decode cX7_feed 2 = .ok (.lconst 1, 1) := dqr0 dqK_10 dqw_cX7_feed_0 2 rfl rfl
theorem dX7_feed_3 : decode cX7_feed 3 = .ok (.ldc2_w 150, 3) := dqr2 dqK_20 dqw_cX7_feed_0 3 rfl rfl rfl rfl rfl
theorem dX7_feed_6 : decode cX7_feed 6 = .ok (.invokestatic 152, 3) := dqr2 dqK_184 dqw_cX7_feed_0 6 rfl rfl rfl rfl rfl
theorem dX7_feed_9 : decode cX7_feed 9 = .ok (.ifCond .ne 6, 3) := dqrs2 dqK_154 dqw_cX7_feed_0 9 rfl rfl rfl rfl (by decide)
theorem dX7_feed_12 : decode cX7_feed 12 = .ok (.bipush (-2), 2) := dqrs1 dqK_16 dqw_cX7_feed_0 12 rfl rfl rfl (by decide)
theorem dX7_feed_14 : decode cX7_feed 14 = .ok (.ireturn, 1) := dqr0 dqK_172 dqw_cX7_feed_0 14 rfl rfl
theorem dX7_feed_15 : decode cX7_feed 15 = .ok (.aload_n 0, 1) := dqr0 dqK_42 dqw_cX7_feed_0 15 rfl rfl
theorem dX7_feed_16 : decode cX7_feed 16 = .ok (.getfield 199, 3) := dqr2 dqK_180 dqw_cX7_feed_0 16 rfl rfl rfl rfl rfl
theorem dX7_feed_19 : decode cX7_feed 19 = .ok (.iload_n 3, 1) := dqr0 dqK_29 dqw_cX7_feed_0 19 rfl rfl
theorem dX7_feed_20 : decode cX7_feed 20 = .ok (.iadd, 1) := dqr0 dqK_96 dqw_cX7_feed_0 20 rfl rfl
theorem dX7_feed_21 : decode cX7_feed 21 = .ok (.bipush 60, 2) := dqrs1 dqK_16 dqw_cX7_feed_0 21 rfl rfl rfl (by decide)
theorem dqw_cX7_feed_23 : dqLF cX7_feed 23 [164, 0, 6, 16, 252, 172, 29, 4, 100, 54, 4, 21, 4, 155, 0, 40, 42, 180, 0, 46, 42, 180, 0, 199] := by decide +kernel
theorem dX7_feed_23 : decode cX7_feed 23 = .ok (.if_icmp .le 6, 3) := dqrs2 dqK_164 dqw_cX7_feed_23 0 rfl rfl rfl rfl (by decide)
theorem dX7_feed_26 : decode cX7_feed 26 = .ok (.bipush (-4), 2) := dqrs1 dqK_16 dqw_cX7_feed_23 3 rfl rfl rfl (by decide)
theorem dX7_feed_28 : decode cX7_feed 28 = .ok (.ireturn, 1) := dqr0 dqK_172 dqw_cX7_feed_23 5 rfl rfl
theorem dX7_feed_29 : decode cX7_feed 29 = .ok (.iload_n 3, 1) := dqr0 dqK_29 dqw_cX7_feed_23 6 rfl rfl
theorem dX7_feed_30 : decode cX7_feed 30 = .ok (.iconst 1, 1) := dqr0 dqK_4 dqw_cX7_feed_23 7 rfl rfl
theorem dX7_feed_31 : decode cX7_feed 31 = .ok (.isub, 1) := dqr0 dqK_100 dqw_cX7_feed_23 8 rfl rfl
theorem dX7_feed_32 : decode cX7_feed 32 = .ok (.istore 4, 2) := dqr1 dqK_54 dqw_cX7_feed_23 9 rfl rfl rfl
theorem dX7_feed_34 : decode cX7_feed 34 = .ok (.iload 4, 2) := dqr1 dqK_21 dqw_cX7_feed_23 11 rfl rfl rfl
theorem dX7_feed_36 : decode cX7_feed 36 = .ok (.ifCond .lt 40, 3) := dqrs2 dqK_155 dqw_cX7_feed_23 13 rfl rfl rfl rfl (by decide)
theorem dX7_feed_39 : decode cX7_feed 39 = .ok (.aload_n 0, 1) := dqr0 dqK_42 dqw_cX7_feed_23 16 rfl rfl
theorem dX7_feed_40 : decode cX7_feed 40 = .ok (.getfield 46, 3) := dqr2 dqK_180 dqw_cX7_feed_23 17 rfl rfl rfl rfl rfl
theorem dX7_feed_43 : decode cX7_feed 43 = .ok (.aload_n 0, 1) := dqr0 dqK_42 dqw_cX7_feed_23 20 rfl rfl
theorem dX7_feed_44 : decode cX7_feed 44 = .ok (.getfield 199, 3) := dqr2 dqK_180 dqw_cX7_feed_23 21 rfl rfl rfl rfl rfl
theorem dqw_cX7_feed_47 : dqLF cX7_feed 47 [31, 16, 8, 21, 4, 104, 123, 20, 0, 202, 127, 136, 79, 42, 89, 180, 0, 199, 4, 96, 181, 0, 199] := by decide +kernel
theorem dX7_feed_47 : decode cX7_feed 47 = .ok (.lload_n 1, 1) := dqr0 dqK_31 dqw_cX7_feed_47 0 rfl rfl
theorem dX7_feed_48 : decode cX7_feed 48 = .ok (.bipush 8, 2) := dqrs1 dqK_16 dqw_cX7_feed_47 1 rfl rfl rfl (by decide)
theorem dX7_feed_50 : decode cX7_feed 50 = .ok (.iload 4, 2) := dqr1 dqK_21 dqw_cX7_feed_47 3 rfl rfl rfl
theorem dX7_feed_52 : decode cX7_feed 52 = .ok (.imul, 1) := dqr0 dqK_104 dqw_cX7_feed_47 5 rfl rfl
theorem dX7_feed_53 : decode cX7_feed 53 = .ok (.lshr, 1) := dqr0 dqK_123 dqw_cX7_feed_47 6 rfl rfl
theorem dX7_feed_54 : decode cX7_feed 54 = .ok (.ldc2_w 202, 3) := dqr2 dqK_20 dqw_cX7_feed_47 7 rfl rfl rfl rfl rfl
theorem dX7_feed_57 : decode cX7_feed 57 = .ok (.land, 1) := dqr0 dqK_127 dqw_cX7_feed_47 10 rfl rfl
theorem dX7_feed_58 : decode cX7_feed 58 = .ok (.l2i, 1) := dqr0 dqK_136 dqw_cX7_feed_47 11 rfl rfl
theorem dX7_feed_59 : decode cX7_feed 59 = .ok (.iastore, 1) := dqr0 dqK_79 dqw_cX7_feed_47 12 rfl rfl
theorem dX7_feed_60 : decode cX7_feed 60 = .ok (.aload_n 0, 1) := dqr0 dqK_42 dqw_cX7_feed_47 13 rfl rfl
theorem dX7_feed_61 : decode cX7_feed 61 = .ok (.dup, 1) := dqr0 dqK_89 dqw_cX7_feed_47 14 rfl rfl
theorem dX7_feed_62 : decode cX7_feed 62 = .ok (.getfield 199, 3) := dqr2 dqK_180 dqw_cX7_feed_47 15 rfl rfl rfl rfl rfl
theorem dX7_feed_65 : decode cX7_feed 65 = .ok (.iconst 1, 1) := dqr0 dqK_4 dqw_cX7_feed_47 18 rfl rfl
theorem dX7_feed_66 : decode cX7_feed 66 = .ok (.iadd, 1) := dqr0 dqK_96 dqw_cX7_feed_47 19 rfl rfl
theorem dX7_feed_67 : decode cX7_feed 67 = .ok (.putfield 199, 3) := dqr2 dqK_181 dqw_cX7_feed_47 20 rfl rfl rfl rfl rfl
theorem dqw_cX7_feed_70 : dqLF cX7_feed 70 [132, 4, 255, 167, 255, 217, 42, 180, 0, 199, 172] := by decide +kernel
theorem dX7_feed_70 : decode cX7_feed 70 = .ok (.iinc 4 (-1), 3) := dqri dqK_132 dqw_cX7_feed_70 0 rfl rfl rfl rfl (by decide)
theorem dX7_feed_73 : decode cX7_feed 73 = .ok (.goto (-39), 3) := dqrs2 dqK_167 dqw_cX7_feed_70 3 rfl rfl rfl rfl (by decide)
theorem dX7_feed_76 : decode cX7_feed 76 = .ok (.aload_n 0, 1) := dqr0 dqK_42 dqw_cX7_feed_70 6 rfl rfl
theorem dX7_feed_77 : decode cX7_feed 77 = .ok (.getfield 199, 3) := dqr2 dqK_180 dqw_cX7_feed_70 7 rfl rfl rfl rfl rfl
theorem dX7_feed_80 : decode cX7_feed 80 = .ok (.ireturn, 1) := dqr0 dqK_172 dqw_cX7_feed_70 10 rfl rfl
theorem dqw_cX7_sign_0 : dqLF cX7_sign 0 [42, 180, 0, 204, 42, 180, 0, 199, 162, 0, 15, 42, 180, 0, 46, 42, 180, 0, 204, 46, 167, 0, 4, 2] := by decide +kernel
theorem dX7_sign_0 : decode cX7_sign 0 = .ok (.aload_n 0, 1) := dqr0 dqK_42 dqw_cX7_sign_0 0 rfl rfl
theorem dX7_sign_1 : decode cX7_sign 1 = .ok (.getfield 204, 3) := dqr2 dqK_180 dqw_cX7_sign_0 1 rfl rfl rfl rfl rfl
theorem dX7_sign_4 : decode cX7_sign 4 = .ok (.aload_n 0, 1) := dqr0 dqK_42 dqw_cX7_sign_0 4 rfl rfl
theorem dX7_sign_5 : decode cX7_sign 5 = .ok (.getfield 199, 3) := dqr2 dqK_180 dqw_cX7_sign_0 5 rfl rfl rfl rfl rfl
theorem dX7_sign_8 : decode cX7_sign 8 = .ok (.if_icmp .ge 15, 3) := dqrs2 dqK_162 dqw_cX7_sign_0 8 rfl rfl rfl rfl (by decide)
theorem dX7_sign_11 : decode cX7_sign 11 = .ok (.aload_n 0, 1) := dqr0 dqK_42 dqw_cX7_sign_0 11 rfl rfl
theorem dX7_sign_12 : decode cX7_sign 12 = .ok (.getfield 46, 3) := dqr2 dqK_180 dqw_cX7_sign_0 12 rfl rfl rfl rfl rfl
theorem dX7_sign_15 : decode cX7_sign 15 = .ok (.aload_n 0, 1) := dqr0 dqK_42 dqw_cX7_sign_0 15 rfl rfl
theorem dX7_sign_16 : decode cX7_sign 16 = .ok (.getfield 204, 3) := dqr2 dqK_180 dqw_cX7_sign_0 16 rfl rfl rfl rfl rfl
theorem dX7_sign_19 : decode cX7_sign 19 = .ok (.iaload, 1) := dqr0 dqK_46 dqw_cX7_sign_0 19 rfl rfl
theorem dX7_sign_20 : decode cX7_sign 20 = .ok (.goto 4, 3) := dqrs2 dqK_167 dqw_cX7_sign_0 20 rfl rfl rfl rfl (by decide)
theorem dX7_sign_23 : decode cX7_sign 23 = .ok (.iconst (-1), 1) := dqr0 dqK_2 dqw_cX7_sign_0 23 rfl rfl
theorem dqw_cX7_sign_24 : dqLF cX7_sign 24 [172] := by decide +kernel
theorem dX7_sign_24 : decode cX7_sign 24 = .ok (.ireturn, 1) := dqr0 dqK_172 dqw_cX7_sign_24 0 rfl rfl
theorem dqw_cX7_isSlot_0 : dqLF cX7_isSlot 0 [26, 16, 97, 161, 0, 13, 26, 16, 104, 163, 0, 7, 4, 167, 0, 4, 3, 172] := by decide +kernel
theorem dX7_isSlot_0 : decode cX7_isSlot 0 = .ok (.iload_n 0, 1) := dqr0 dqK_26 dqw_cX7_isSlot_0 0 rfl rfl
theorem dX7_isSlot_1 : decode cX7_isSlot 1 = .ok (.bipush 97, 2) := dqrs1 dqK_16 dqw_cX7_isSlot_0 1 rfl rfl rfl (by decide)
theorem dX7_isSlot_3 : decode cX7_isSlot 3 = .ok (.if_icmp .lt 13, 3) := dqrs2 dqK_161 dqw_cX7_isSlot_0 3 rfl rfl rfl rfl (by decide)
theorem dX7_isSlot_6 : decode cX7_isSlot 6 = .ok (.iload_n 0, 1) := dqr0 dqK_26 dqw_cX7_isSlot_0 6 rfl rfl
theorem dX7_isSlot_7 : decode cX7_isSlot 7 = .ok (.bipush 104, 2) := dqrs1 dqK_16 dqw_cX7_isSlot_0 7 rfl rfl rfl (by decide)
theorem dX7_isSlot_9 : decode cX7_isSlot 9 = .ok (.if_icmp .gt 7, 3) := dqrs2 dqK_163 dqw_cX7_isSlot_0 9 rfl rfl rfl rfl (by decide)
theorem dX7_isSlot_12 : decode cX7_isSlot 12 = .ok (.iconst 1, 1) := dqr0 dqK_4 dqw_cX7_isSlot_0 12 rfl rfl
theorem dX7_isSlot_13 : decode cX7_isSlot 13 = .ok (.goto 4, 3) := dqrs2 dqK_167 dqw_cX7_isSlot_0 13 rfl rfl rfl rfl (by decide)
theorem dX7_isSlot_16 : decode cX7_isSlot 16 = .ok (.iconst 0, 1) := dqr0 dqK_3 dqw_cX7_isSlot_0 16 rfl rfl
theorem dX7_isSlot_17 : decode cX7_isSlot 17 = .ok (.ireturn, 1) := dqr0 dqK_172 dqw_cX7_isSlot_0 17 rfl rfl
theorem dqw_cX7_isScene_0 : dqLF cX7_isScene 0 [26, 16, 65, 161, 0, 13, 26, 16, 72, 163, 0, 7, 4, 167, 0, 4, 3, 172] := by decide +kernel
theorem dX7_isScene_0 : decode cX7_isScene 0 = .ok (.iload_n 0, 1) := dqr0 dqK_26 dqw_cX7_isScene_0 0 rfl rfl
theorem dX7_isScene_1 : decode cX7_isScene 1 = .ok (.bipush 65, 2) := dqrs1 dqK_16 dqw_cX7_isScene_0 1 rfl rfl rfl (by decide)
theorem dX7_isScene_3 : decode cX7_isScene 3 = .ok (.if_icmp .lt 13, 3) := dqrs2 dqK_161 dqw_cX7_isScene_0 3 rfl rfl rfl rfl (by decide)
theorem dX7_isScene_6 : decode cX7_isScene 6 = .ok (.iload_n 0, 1) := dqr0 dqK_26 dqw_cX7_isScene_0 6 rfl rfl
theorem dX7_isScene_7 : decode cX7_isScene 7 = .ok (.bipush 72, 2) := dqrs1 dqK_16 dqw_cX7_isScene_0 7 rfl rfl rfl (by decide)
theorem dX7_isScene_9 : decode cX7_isScene 9 = .ok (.if_icmp .gt 7, 3) := dqrs2 dqK_163 dqw_cX7_isScene_0 9 rfl rfl rfl rfl (by decide)
theorem dX7_isScene_12 : decode cX7_isScene 12 = .ok (.iconst 1, 1) := dqr0 dqK_4 dqw_cX7_isScene_0 12 rfl rfl
theorem dX7_isScene_13 : decode cX7_isScene 13 = .ok (.goto 4, 3) := dqrs2 dqK_167 dqw_cX7_isScene_0 13 rfl rfl rfl rfl (by decide)
theorem dX7_isScene_16 : decode cX7_isScene 16 = .ok (.iconst 0, 1) := dqr0 dqK_3 dqw_cX7_isScene_0 16 rfl rfl
theorem dX7_isScene_17 : decode cX7_isScene 17 = .ok (.ireturn, 1) := dqr0 dqK_172 dqw_cX7_isScene_0 17 rfl rfl
theorem dqw_cX7_isTold_0 : dqLF cX7_isTold 0 [27, 133, 9, 20, 0, 167, 184, 0, 152, 153, 0, 16, 42, 180, 0, 55, 27, 46, 158, 0, 7, 4] := by decide +kernel
theorem dX7_isTold_0 : decode cX7_isTold 0 = .ok (.iload_n 1, 1) := dqr0 dqK_27 dqw_cX7_isTold_0 0 rfl rfl
theorem dX7_isTold_1 : decode cX7_isTold 1 = .ok (.i2l, 1) := dqr0 dqK_133 dqw_cX7_isTold_0 1 rfl rfl
theorem dX7_isTold_2 : decode cX7_isTold 2 = .ok (.lconst 0, 1) := dqr0 dqK_9 dqw_cX7_isTold_0 2 rfl rfl
theorem dX7_isTold_3 : decode cX7_isTold 3 = .ok (.ldc2_w 167, 3) := dqr2 dqK_20 dqw_cX7_isTold_0 3 rfl rfl rfl rfl rfl
theorem dX7_isTold_6 : decode cX7_isTold 6 = .ok (.invokestatic 152, 3) := dqr2 dqK_184 dqw_cX7_isTold_0 6 rfl rfl rfl rfl rfl
theorem dX7_isTold_9 : decode cX7_isTold 9 = .ok (.ifCond .eq 16, 3) := dqrs2 dqK_153 dqw_cX7_isTold_0 9 rfl rfl rfl rfl (by decide)
theorem dX7_isTold_12 : decode cX7_isTold 12 = .ok (.aload_n 0, 1) := dqr0 dqK_42 dqw_cX7_isTold_0 12 rfl rfl
theorem dX7_isTold_13 : decode cX7_isTold 13 = .ok (.getfield 55, 3) := dqr2 dqK_180 dqw_cX7_isTold_0 13 rfl rfl rfl rfl rfl
theorem dX7_isTold_16 : decode cX7_isTold 16 = .ok (.iload_n 1, 1) := dqr0 dqK_27 dqw_cX7_isTold_0 16 rfl rfl
theorem dX7_isTold_17 : decode cX7_isTold 17 = .ok (.iaload, 1) := dqr0 dqK_46 dqw_cX7_isTold_0 17 rfl rfl
theorem dX7_isTold_18 : decode cX7_isTold 18 = .ok (.ifCond .le 7, 3) := dqrs2 dqK_158 dqw_cX7_isTold_0 18 rfl rfl rfl rfl (by decide)
theorem dX7_isTold_21 : decode cX7_isTold 21 = .ok (.iconst 1, 1) := dqr0 dqK_4 dqw_cX7_isTold_0 21 rfl rfl
theorem dqw_cX7_isTold_22 : dqLF cX7_isTold 22 [167, 0, 4, 3, 172] := by decide +kernel
theorem dX7_isTold_22 : decode cX7_isTold 22 = .ok (.goto 4, 3) := dqrs2 dqK_167 dqw_cX7_isTold_22 0 rfl rfl rfl rfl (by decide)
theorem dX7_isTold_25 : decode cX7_isTold 25 = .ok (.iconst 0, 1) := dqr0 dqK_3 dqw_cX7_isTold_22 3 rfl rfl
theorem dX7_isTold_26 : decode cX7_isTold 26 = .ok (.ireturn, 1) := dqr0 dqK_172 dqw_cX7_isTold_22 4 rfl rfl
theorem dqw_cX7_parses_0 : dqLF cX7_parses 0 [42, 3, 181, 0, 207, 42, 182, 0, 210, 61, 28, 16, 91, 159, 0, 15, 28, 16, 123, 159, 0, 9, 28] := by decide +kernel
theorem dX7_parses_0 : decode cX7_parses 0 = .ok (.aload_n 0, 1) := dqr0 dqK_42 dqw_cX7_parses_0 0 rfl rfl
theorem dX7_parses_1 : decode cX7_parses 1 = .ok (.iconst 0, 1) := dqr0 dqK_3 dqw_cX7_parses_0 1 rfl rfl
theorem dX7_parses_2 : decode cX7_parses 2 = .ok (.putfield 207, 3) := dqr2 dqK_181 dqw_cX7_parses_0 2 rfl rfl rfl rfl rfl
theorem dX7_parses_5 : decode cX7_parses 5 = .ok (.aload_n 0, 1) := dqr0 dqK_42 dqw_cX7_parses_0 5 rfl rfl
theorem dX7_parses_6 : decode cX7_parses 6 = .ok (.invokevirtual 210, 3) := dqr2 dqK_182 dqw_cX7_parses_0 6 rfl rfl rfl rfl rfl
theorem dX7_parses_9 : decode cX7_parses 9 = .ok (.istore_n 2, 1) := dqr0 dqK_61 dqw_cX7_parses_0 9 rfl rfl
theorem dX7_parses_10 : decode cX7_parses 10 = .ok (.iload_n 2, 1) := dqr0 dqK_28 dqw_cX7_parses_0 10 rfl rfl
theorem dX7_parses_11 : decode cX7_parses 11 = .ok (.bipush 91, 2) := dqrs1 dqK_16 dqw_cX7_parses_0 11 rfl rfl rfl (by decide)
theorem dX7_parses_13 : decode cX7_parses 13 = .ok (.if_icmp .eq 15, 3) := dqrs2 dqK_159 dqw_cX7_parses_0 13 rfl rfl rfl rfl (by decide)
theorem dX7_parses_16 : decode cX7_parses 16 = .ok (.iload_n 2, 1) := dqr0 dqK_28 dqw_cX7_parses_0 16 rfl rfl
theorem dX7_parses_17 : decode cX7_parses 17 = .ok (.bipush 123, 2) := dqrs1 dqK_16 dqw_cX7_parses_0 17 rfl rfl rfl (by decide)
theorem dX7_parses_19 : decode cX7_parses 19 = .ok (.if_icmp .eq 9, 3) := dqrs2 dqK_159 dqw_cX7_parses_0 19 rfl rfl rfl rfl (by decide)
theorem dX7_parses_22 : decode cX7_parses 22 = .ok (.iload_n 2, 1) := dqr0 dqK_28 dqw_cX7_parses_0 22 rfl rfl
theorem dqw_cX7_parses_23 : dqLF cX7_parses 23 [16, 40, 160, 0, 41, 42, 180, 0, 58, 42, 180, 0, 207, 28, 79, 42, 89, 180, 0, 207, 4, 96] := by decide +kernel
theorem dX7_parses_23 : decode cX7_parses 23 = .ok (.bipush 40, 2) := dqrs1 dqK_16 dqw_cX7_parses_23 0 rfl rfl rfl (by decide)
theorem dX7_parses_25 : decode cX7_parses 25 = .ok (.if_icmp .ne 41, 3) := dqrs2 dqK_160 dqw_cX7_parses_23 2 rfl rfl rfl rfl (by decide)
theorem dX7_parses_28 : decode cX7_parses 28 = .ok (.aload_n 0, 1) := dqr0 dqK_42 dqw_cX7_parses_23 5 rfl rfl
theorem dX7_parses_29 : decode cX7_parses 29 = .ok (.getfield 58, 3) := dqr2 dqK_180 dqw_cX7_parses_23 6 rfl rfl rfl rfl rfl
theorem dX7_parses_32 : decode cX7_parses 32 = .ok (.aload_n 0, 1) := dqr0 dqK_42 dqw_cX7_parses_23 9 rfl rfl
theorem dX7_parses_33 : decode cX7_parses 33 = .ok (.getfield 207, 3) := dqr2 dqK_180 dqw_cX7_parses_23 10 rfl rfl rfl rfl rfl
theorem dX7_parses_36 : decode cX7_parses 36 = .ok (.iload_n 2, 1) := dqr0 dqK_28 dqw_cX7_parses_23 13 rfl rfl
theorem dX7_parses_37 : decode cX7_parses 37 = .ok (.iastore, 1) := dqr0 dqK_79 dqw_cX7_parses_23 14 rfl rfl
theorem dX7_parses_38 : decode cX7_parses 38 = .ok (.aload_n 0, 1) := dqr0 dqK_42 dqw_cX7_parses_23 15 rfl rfl
theorem dX7_parses_39 : decode cX7_parses 39 = .ok (.dup, 1) := dqr0 dqK_89 dqw_cX7_parses_23 16 rfl rfl
theorem dX7_parses_40 : decode cX7_parses 40 = .ok (.getfield 207, 3) := dqr2 dqK_180 dqw_cX7_parses_23 17 rfl rfl rfl rfl rfl
theorem dX7_parses_43 : decode cX7_parses 43 = .ok (.iconst 1, 1) := dqr0 dqK_4 dqw_cX7_parses_23 20 rfl rfl
theorem dX7_parses_44 : decode cX7_parses 44 = .ok (.iadd, 1) := dqr0 dqK_96 dqw_cX7_parses_23 21 rfl rfl
theorem dqw_cX7_parses_45 : dqLF cX7_parses 45 [181, 0, 207, 42, 89, 180, 0, 204, 4, 96, 181, 0, 204, 42, 182, 0, 210, 61, 167, 255, 203, 28] := by decide +kernel
theorem dX7_parses_45 : decode cX7_parses 45 = .ok (.putfield 207, 3) := dqr2 dqK_181 dqw_cX7_parses_45 0 rfl rfl rfl rfl rfl
theorem dX7_parses_48 : decode cX7_parses 48 = .ok (.aload_n 0, 1) := dqr0 dqK_42 dqw_cX7_parses_45 3 rfl rfl
theorem dX7_parses_49 : decode cX7_parses 49 = .ok (.dup, 1) := dqr0 dqK_89 dqw_cX7_parses_45 4 rfl rfl
theorem dX7_parses_50 : decode cX7_parses 50 = .ok (.getfield 204, 3) := dqr2 dqK_180 dqw_cX7_parses_45 5 rfl rfl rfl rfl rfl
theorem dX7_parses_53 : decode cX7_parses 53 = .ok (.iconst 1, 1) := dqr0 dqK_4 dqw_cX7_parses_45 8 rfl rfl
theorem dX7_parses_54 : decode cX7_parses 54 = .ok (.iadd, 1) := dqr0 dqK_96 dqw_cX7_parses_45 9 rfl rfl
theorem dX7_parses_55 : decode cX7_parses 55 = .ok (.putfield 204, 3) := dqr2 dqK_181 dqw_cX7_parses_45 10 rfl rfl rfl rfl rfl
theorem dX7_parses_58 : decode cX7_parses 58 = .ok (.aload_n 0, 1) := dqr0 dqK_42 dqw_cX7_parses_45 13 rfl rfl
theorem dX7_parses_59 : decode cX7_parses 59 = .ok (.invokevirtual 210, 3) := dqr2 dqK_182 dqw_cX7_parses_45 14 rfl rfl rfl rfl rfl
theorem dX7_parses_62 : decode cX7_parses 62 = .ok (.istore_n 2, 1) := dqr0 dqK_61 dqw_cX7_parses_45 17 rfl rfl
theorem dX7_parses_63 : decode cX7_parses 63 = .ok (.goto (-53), 3) := dqrs2 dqK_167 dqw_cX7_parses_45 18 rfl rfl rfl rfl (by decide)
theorem dX7_parses_66 : decode cX7_parses 66 = .ok (.iload_n 2, 1) := dqr0 dqK_28 dqw_cX7_parses_45 21 rfl rfl
theorem dqw_cX7_parses_67 : dqLF cX7_parses 67 [184, 0, 214, 154, 0, 12, 28, 184, 0, 217, 154, 0, 5, 3, 172, 28, 184, 0, 217, 153, 0, 37, 42, 28] := by decide +kernel
theorem dX7_parses_67 : decode cX7_parses 67 = .ok (.invokestatic 214, 3) := dqr2 dqK_184 dqw_cX7_parses_67 0 rfl rfl rfl rfl rfl
theorem dX7_parses_70 : decode cX7_parses 70 = .ok (.ifCond .ne 12, 3) := dqrs2 dqK_154 dqw_cX7_parses_67 3 rfl rfl rfl rfl (by decide)
theorem dX7_parses_73 : decode cX7_parses 73 = .ok (.iload_n 2, 1) := dqr0 dqK_28 dqw_cX7_parses_67 6 rfl rfl
theorem dX7_parses_74 : decode cX7_parses 74 = .ok (.invokestatic 217, 3) := dqr2 dqK_184 dqw_cX7_parses_67 7 rfl rfl rfl rfl rfl
theorem dX7_parses_77 : decode cX7_parses 77 = .ok (.ifCond .ne 5, 3) := dqrs2 dqK_154 dqw_cX7_parses_67 10 rfl rfl rfl rfl (by decide)
theorem dX7_parses_80 : decode cX7_parses 80 = .ok (.iconst 0, 1) := dqr0 dqK_3 dqw_cX7_parses_67 13 rfl rfl
theorem dX7_parses_81 : decode cX7_parses 81 = .ok (.ireturn, 1) := dqr0 dqK_172 dqw_cX7_parses_67 14 rfl rfl
theorem dX7_parses_82 : decode cX7_parses 82 = .ok (.iload_n 2, 1) := dqr0 dqK_28 dqw_cX7_parses_67 15 rfl rfl
theorem dX7_parses_83 : decode cX7_parses 83 = .ok (.invokestatic 217, 3) := dqr2 dqK_184 dqw_cX7_parses_67 16 rfl rfl rfl rfl rfl
theorem dX7_parses_86 : decode cX7_parses 86 = .ok (.ifCond .eq 37, 3) := dqrs2 dqK_153 dqw_cX7_parses_67 19 rfl rfl rfl rfl (by decide)
theorem dX7_parses_89 : decode cX7_parses 89 = .ok (.aload_n 0, 1) := dqr0 dqK_42 dqw_cX7_parses_67 22 rfl rfl
theorem dX7_parses_90 : decode cX7_parses 90 = .ok (.iload_n 2, 1) := dqr0 dqK_28 dqw_cX7_parses_67 23 rfl rfl
theorem dqw_cX7_parses_91 : dqLF cX7_parses 91 [16, 65, 100, 182, 0, 220, 153, 0, 11, 28, 16, 65, 100, 27, 160, 0, 18, 42, 180, 0, 223, 156, 0, 11] := by decide +kernel
theorem dX7_parses_91 : decode cX7_parses 91 = .ok (.bipush 65, 2) := dqrs1 dqK_16 dqw_cX7_parses_91 0 rfl rfl rfl (by decide)
theorem dX7_parses_93 : decode cX7_parses 93 = .ok (.isub, 1) := dqr0 dqK_100 dqw_cX7_parses_91 2 rfl rfl
theorem dX7_parses_94 : decode cX7_parses 94 = .ok (.invokevirtual 220, 3) := dqr2 dqK_182 dqw_cX7_parses_91 3 rfl rfl rfl rfl rfl
theorem dX7_parses_97 : decode cX7_parses 97 = .ok (.ifCond .eq 11, 3) := dqrs2 dqK_153 dqw_cX7_parses_91 6 rfl rfl rfl rfl (by decide)
theorem dX7_parses_100 : decode cX7_parses 100 = .ok (.iload_n 2, 1) := dqr0 dqK_28 dqw_cX7_parses_91 9 rfl rfl
theorem dX7_parses_101 : decode cX7_parses 101 = .ok (.bipush 65, 2) := dqrs1 dqK_16 dqw_cX7_parses_91 10 rfl rfl rfl (by decide)
theorem dX7_parses_103 : decode cX7_parses 103 = .ok (.isub, 1) := dqr0 dqK_100 dqw_cX7_parses_91 12 rfl rfl
theorem dX7_parses_104 : decode cX7_parses 104 = .ok (.iload_n 1, 1) := dqr0 dqK_27 dqw_cX7_parses_91 13 rfl rfl
theorem dX7_parses_105 : decode cX7_parses 105 = .ok (.if_icmp .ne 18, 3) := dqrs2 dqK_160 dqw_cX7_parses_91 14 rfl rfl rfl rfl (by decide)
theorem dX7_parses_108 : decode cX7_parses 108 = .ok (.aload_n 0, 1) := dqr0 dqK_42 dqw_cX7_parses_91 17 rfl rfl
theorem dX7_parses_109 : decode cX7_parses 109 = .ok (.getfield 223, 3) := dqr2 dqK_180 dqw_cX7_parses_91 18 rfl rfl rfl rfl rfl
theorem dX7_parses_112 : decode cX7_parses 112 = .ok (.ifCond .ge 11, 3) := dqrs2 dqK_156 dqw_cX7_parses_91 21 rfl rfl rfl rfl (by decide)
theorem dqw_cX7_parses_115 : dqLF cX7_parses 115 [42, 42, 180, 0, 204, 181, 0, 223, 42, 89, 180, 0, 204, 4, 96, 181, 0, 204, 3, 62, 29, 154, 0, 188] := by decide +kernel
theorem dX7_parses_115 : decode cX7_parses 115 = .ok (.aload_n 0, 1) := dqr0 dqK_42 dqw_cX7_parses_115 0 rfl rfl
theorem dX7_parses_116 : decode cX7_parses 116 = .ok (.aload_n 0, 1) := dqr0 dqK_42 dqw_cX7_parses_115 1 rfl rfl
theorem dX7_parses_117 : decode cX7_parses 117 = .ok (.getfield 204, 3) := dqr2 dqK_180 dqw_cX7_parses_115 2 rfl rfl rfl rfl rfl
theorem dX7_parses_120 : decode cX7_parses 120 = .ok (.putfield 223, 3) := dqr2 dqK_181 dqw_cX7_parses_115 5 rfl rfl rfl rfl rfl
theorem dX7_parses_123 : decode cX7_parses 123 = .ok (.aload_n 0, 1) := dqr0 dqK_42 dqw_cX7_parses_115 8 rfl rfl
theorem dX7_parses_124 : decode cX7_parses 124 = .ok (.dup, 1) := dqr0 dqK_89 dqw_cX7_parses_115 9 rfl rfl
theorem dX7_parses_125 : decode cX7_parses 125 = .ok (.getfield 204, 3) := dqr2 dqK_180 dqw_cX7_parses_115 10 rfl rfl rfl rfl rfl
theorem dX7_parses_128 : decode cX7_parses 128 = .ok (.iconst 1, 1) := dqr0 dqK_4 dqw_cX7_parses_115 13 rfl rfl
theorem dX7_parses_129 : decode cX7_parses 129 = .ok (.iadd, 1) := dqr0 dqK_96 dqw_cX7_parses_115 14 rfl rfl
theorem dX7_parses_130 : decode cX7_parses 130 = .ok (.putfield 204, 3) := dqr2 dqK_181 dqw_cX7_parses_115 15 rfl rfl rfl rfl rfl
theorem dX7_parses_133 : decode cX7_parses 133 = .ok (.iconst 0, 1) := dqr0 dqK_3 dqw_cX7_parses_115 18 rfl rfl
theorem dX7_parses_134 : decode cX7_parses 134 = .ok (.istore_n 3, 1) := dqr0 dqK_62 dqw_cX7_parses_115 19 rfl rfl
theorem dX7_parses_135 : decode cX7_parses 135 = .ok (.iload_n 3, 1) := dqr0 dqK_29 dqw_cX7_parses_115 20 rfl rfl
theorem dX7_parses_136 : decode cX7_parses 136 = .ok (.ifCond .ne 188, 3) := dqrs2 dqK_154 dqw_cX7_parses_115 21 rfl rfl rfl rfl (by decide)
theorem dqw_cX7_parses_139 : dqLF cX7_parses 139 [42, 182, 0, 210, 61, 42, 180, 0, 207, 154, 0, 7, 3, 167, 0, 14, 42, 180, 0, 58, 42, 180, 0, 207] := by decide +kernel
theorem dX7_parses_139 : decode cX7_parses 139 = .ok (.aload_n 0, 1) := dqr0 dqK_42 dqw_cX7_parses_139 0 rfl rfl
theorem dX7_parses_140 : decode cX7_parses 140 = .ok (.invokevirtual 210, 3) := dqr2 dqK_182 dqw_cX7_parses_139 1 rfl rfl rfl rfl rfl
theorem dX7_parses_143 : decode cX7_parses 143 = .ok (.istore_n 2, 1) := dqr0 dqK_61 dqw_cX7_parses_139 4 rfl rfl
theorem dX7_parses_144 : decode cX7_parses 144 = .ok (.aload_n 0, 1) := dqr0 dqK_42 dqw_cX7_parses_139 5 rfl rfl
theorem dX7_parses_145 : decode cX7_parses 145 = .ok (.getfield 207, 3) := dqr2 dqK_180 dqw_cX7_parses_139 6 rfl rfl rfl rfl rfl
theorem dX7_parses_148 : decode cX7_parses 148 = .ok (.ifCond .ne 7, 3) := dqrs2 dqK_154 dqw_cX7_parses_139 9 rfl rfl rfl rfl (by decide)
theorem dX7_parses_151 : decode cX7_parses 151 = .ok (.iconst 0, 1) := dqr0 dqK_3 dqw_cX7_parses_139 12 rfl rfl
theorem dX7_parses_152 : decode cX7_parses 152 = .ok (.goto 14, 3) := dqrs2 dqK_167 dqw_cX7_parses_139 13 rfl rfl rfl rfl (by decide)
theorem dX7_parses_155 : decode cX7_parses 155 = .ok (.aload_n 0, 1) := dqr0 dqK_42 dqw_cX7_parses_139 16 rfl rfl
theorem dX7_parses_156 : decode cX7_parses 156 = .ok (.getfield 58, 3) := dqr2 dqK_180 dqw_cX7_parses_139 17 rfl rfl rfl rfl rfl
theorem dX7_parses_159 : decode cX7_parses 159 = .ok (.aload_n 0, 1) := dqr0 dqK_42 dqw_cX7_parses_139 20 rfl rfl
theorem dX7_parses_160 : decode cX7_parses 160 = .ok (.getfield 207, 3) := dqr2 dqK_180 dqw_cX7_parses_139 21 rfl rfl rfl rfl rfl
theorem dqw_cX7_parses_163 : dqLF cX7_parses 163 [4, 100, 46, 54, 4, 28, 16, 93, 160, 0, 10, 21, 4, 16, 91, 159, 0, 29, 28, 16, 125, 160, 0, 10] := by decide +kernel
theorem dX7_parses_163 : decode cX7_parses 163 = .ok (.iconst 1, 1) := dqr0 dqK_4 dqw_cX7_parses_163 0 rfl rfl
theorem dX7_parses_164 : decode cX7_parses 164 = .ok (.isub, 1) := dqr0 dqK_100 dqw_cX7_parses_163 1 rfl rfl
theorem dX7_parses_165 : decode cX7_parses 165 = .ok (.iaload, 1) := dqr0 dqK_46 dqw_cX7_parses_163 2 rfl rfl
theorem dX7_parses_166 : decode cX7_parses 166 = .ok (.istore 4, 2) := dqr1 dqK_54 dqw_cX7_parses_163 3 rfl rfl rfl
theorem dX7_parses_168 : decode cX7_parses 168 = .ok (.iload_n 2, 1) := dqr0 dqK_28 dqw_cX7_parses_163 5 rfl rfl
theorem dX7_parses_169 : decode cX7_parses 169 = .ok (.bipush 93, 2) := dqrs1 dqK_16 dqw_cX7_parses_163 6 rfl rfl rfl (by decide)
theorem dX7_parses_171 : decode cX7_parses 171 = .ok (.if_icmp .ne 10, 3) := dqrs2 dqK_160 dqw_cX7_parses_163 8 rfl rfl rfl rfl (by decide)
theorem dX7_parses_174 : decode cX7_parses 174 = .ok (.iload 4, 2) := dqr1 dqK_21 dqw_cX7_parses_163 11 rfl rfl rfl
theorem dX7_parses_176 : decode cX7_parses 176 = .ok (.bipush 91, 2) := dqrs1 dqK_16 dqw_cX7_parses_163 13 rfl rfl rfl (by decide)
theorem dX7_parses_178 : decode cX7_parses 178 = .ok (.if_icmp .eq 29, 3) := dqrs2 dqK_159 dqw_cX7_parses_163 15 rfl rfl rfl rfl (by decide)
theorem dX7_parses_181 : decode cX7_parses 181 = .ok (.iload_n 2, 1) := dqr0 dqK_28 dqw_cX7_parses_163 18 rfl rfl
theorem dX7_parses_182 : decode cX7_parses 182 = .ok (.bipush 125, 2) := dqrs1 dqK_16 dqw_cX7_parses_163 19 rfl rfl rfl (by decide)
theorem dX7_parses_184 : decode cX7_parses 184 = .ok (.if_icmp .ne 10, 3) := dqrs2 dqK_160 dqw_cX7_parses_163 21 rfl rfl rfl rfl (by decide)
theorem dqw_cX7_parses_187 : dqLF cX7_parses 187 [21, 4, 16, 123, 159, 0, 16, 28, 16, 41, 160, 0, 33, 21, 4, 16, 124, 160, 0, 26, 42, 89] := by decide +kernel
theorem dX7_parses_187 : decode cX7_parses 187 = .ok (.iload 4, 2) := dqr1 dqK_21 dqw_cX7_parses_187 0 rfl rfl rfl
theorem dX7_parses_189 : decode cX7_parses 189 = .ok (.bipush 123, 2) := dqrs1 dqK_16 dqw_cX7_parses_187 2 rfl rfl rfl (by decide)
theorem dX7_parses_191 : decode cX7_parses 191 = .ok (.if_icmp .eq 16, 3) := dqrs2 dqK_159 dqw_cX7_parses_187 4 rfl rfl rfl rfl (by decide)
theorem dX7_parses_194 : decode cX7_parses 194 = .ok (.iload_n 2, 1) := dqr0 dqK_28 dqw_cX7_parses_187 7 rfl rfl
theorem dX7_parses_195 : decode cX7_parses 195 = .ok (.bipush 41, 2) := dqrs1 dqK_16 dqw_cX7_parses_187 8 rfl rfl rfl (by decide)
theorem dX7_parses_197 : decode cX7_parses 197 = .ok (.if_icmp .ne 33, 3) := dqrs2 dqK_160 dqw_cX7_parses_187 10 rfl rfl rfl rfl (by decide)
theorem dX7_parses_200 : decode cX7_parses 200 = .ok (.iload 4, 2) := dqr1 dqK_21 dqw_cX7_parses_187 13 rfl rfl rfl
theorem dX7_parses_202 : decode cX7_parses 202 = .ok (.bipush 124, 2) := dqrs1 dqK_16 dqw_cX7_parses_187 15 rfl rfl rfl (by decide)
theorem dX7_parses_204 : decode cX7_parses 204 = .ok (.if_icmp .ne 26, 3) := dqrs2 dqK_160 dqw_cX7_parses_187 17 rfl rfl rfl rfl (by decide)
theorem dX7_parses_207 : decode cX7_parses 207 = .ok (.aload_n 0, 1) := dqr0 dqK_42 dqw_cX7_parses_187 20 rfl rfl
theorem dX7_parses_208 : decode cX7_parses 208 = .ok (.dup, 1) := dqr0 dqK_89 dqw_cX7_parses_187 21 rfl rfl
theorem dqw_cX7_parses_209 : dqLF cX7_parses 209 [180, 0, 207, 4, 100, 181, 0, 207, 42, 89, 180, 0, 204, 4, 96, 181, 0, 204, 167, 255, 164, 28, 16, 124] := by decide +kernel
theorem dX7_parses_209 : decode cX7_parses 209 = .ok (.getfield 207, 3) := dqr2 dqK_180 dqw_cX7_parses_209 0 rfl rfl rfl rfl rfl
theorem dX7_parses_212 : decode cX7_parses 212 = .ok (.iconst 1, 1) := dqr0 dqK_4 dqw_cX7_parses_209 3 rfl rfl
theorem dX7_parses_213 : decode cX7_parses 213 = .ok (.isub, 1) := dqr0 dqK_100 dqw_cX7_parses_209 4 rfl rfl
theorem dX7_parses_214 : decode cX7_parses 214 = .ok (.putfield 207, 3) := dqr2 dqK_181 dqw_cX7_parses_209 5 rfl rfl rfl rfl rfl
theorem dX7_parses_217 : decode cX7_parses 217 = .ok (.aload_n 0, 1) := dqr0 dqK_42 dqw_cX7_parses_209 8 rfl rfl
theorem dX7_parses_218 : decode cX7_parses 218 = .ok (.dup, 1) := dqr0 dqK_89 dqw_cX7_parses_209 9 rfl rfl
theorem dX7_parses_219 : decode cX7_parses 219 = .ok (.getfield 204, 3) := dqr2 dqK_180 dqw_cX7_parses_209 10 rfl rfl rfl rfl rfl
theorem dX7_parses_222 : decode cX7_parses 222 = .ok (.iconst 1, 1) := dqr0 dqK_4 dqw_cX7_parses_209 13 rfl rfl
theorem dX7_parses_223 : decode cX7_parses 223 = .ok (.iadd, 1) := dqr0 dqK_96 dqw_cX7_parses_209 14 rfl rfl
theorem dX7_parses_224 : decode cX7_parses 224 = .ok (.putfield 204, 3) := dqr2 dqK_181 dqw_cX7_parses_209 15 rfl rfl rfl rfl rfl
theorem dX7_parses_227 : decode cX7_parses 227 = .ok (.goto (-92), 3) := dqrs2 dqK_167 dqw_cX7_parses_209 18 rfl rfl rfl rfl (by decide)
theorem dX7_parses_230 : decode cX7_parses 230 = .ok (.iload_n 2, 1) := dqr0 dqK_28 dqw_cX7_parses_209 21 rfl rfl
theorem dX7_parses_231 : decode cX7_parses 231 = .ok (.bipush 124, 2) := dqrs1 dqK_16 dqw_cX7_parses_209 22 rfl rfl rfl (by decide)
theorem dqw_cX7_parses_233 : dqLF cX7_parses 233 [160, 0, 38, 21, 4, 16, 40, 160, 0, 31, 42, 180, 0, 58, 42, 180, 0, 207, 4, 100, 16, 124, 79, 42] := by decide +kernel
theorem dX7_parses_233 : decode cX7_parses 233 = .ok (.if_icmp .ne 38, 3) := dqrs2 dqK_160 dqw_cX7_parses_233 0 rfl rfl rfl rfl (by decide)
theorem dX7_parses_236 : decode cX7_parses 236 = .ok (.iload 4, 2) := dqr1 dqK_21 dqw_cX7_parses_233 3 rfl rfl rfl
theorem dX7_parses_238 : decode cX7_parses 238 = .ok (.bipush 40, 2) := dqrs1 dqK_16 dqw_cX7_parses_233 5 rfl rfl rfl (by decide)
theorem dX7_parses_240 : decode cX7_parses 240 = .ok (.if_icmp .ne 31, 3) := dqrs2 dqK_160 dqw_cX7_parses_233 7 rfl rfl rfl rfl (by decide)
theorem dX7_parses_243 : decode cX7_parses 243 = .ok (.aload_n 0, 1) := dqr0 dqK_42 dqw_cX7_parses_233 10 rfl rfl
theorem dX7_parses_244 : decode cX7_parses 244 = .ok (.getfield 58, 3) := dqr2 dqK_180 dqw_cX7_parses_233 11 rfl rfl rfl rfl rfl
theorem dX7_parses_247 : decode cX7_parses 247 = .ok (.aload_n 0, 1) := dqr0 dqK_42 dqw_cX7_parses_233 14 rfl rfl
theorem dX7_parses_248 : decode cX7_parses 248 = .ok (.getfield 207, 3) := dqr2 dqK_180 dqw_cX7_parses_233 15 rfl rfl rfl rfl rfl
theorem dX7_parses_251 : decode cX7_parses 251 = .ok (.iconst 1, 1) := dqr0 dqK_4 dqw_cX7_parses_233 18 rfl rfl
theorem dX7_parses_252 : decode cX7_parses 252 = .ok (.isub, 1) := dqr0 dqK_100 dqw_cX7_parses_233 19 rfl rfl
theorem dX7_parses_253 : decode cX7_parses 253 = .ok (.bipush 124, 2) := dqrs1 dqK_16 dqw_cX7_parses_233 20 rfl rfl rfl (by decide)
theorem dX7_parses_255 : decode cX7_parses 255 = .ok (.iastore, 1) := dqr0 dqK_79 dqw_cX7_parses_233 22 rfl rfl
theorem dX7_parses_256 : decode cX7_parses 256 = .ok (.aload_n 0, 1) := dqr0 dqK_42 dqw_cX7_parses_233 23 rfl rfl
theorem dqw_cX7_parses_257 : dqLF cX7_parses 257 [89, 180, 0, 204, 4, 96, 181, 0, 204, 4, 62, 167, 255, 123, 28, 2, 160, 0, 12, 42, 180, 0, 207] := by decide +kernel
theorem dX7_parses_257 : decode cX7_parses 257 = .ok (.dup, 1) := dqr0 dqK_89 dqw_cX7_parses_257 0 rfl rfl
theorem dX7_parses_258 : decode cX7_parses 258 = .ok (.getfield 204, 3) := dqr2 dqK_180 dqw_cX7_parses_257 1 rfl rfl rfl rfl rfl
theorem dX7_parses_261 : decode cX7_parses 261 = .ok (.iconst 1, 1) := dqr0 dqK_4 dqw_cX7_parses_257 4 rfl rfl
theorem dX7_parses_262 : decode cX7_parses 262 = .ok (.iadd, 1) := dqr0 dqK_96 dqw_cX7_parses_257 5 rfl rfl
theorem dX7_parses_263 : decode cX7_parses 263 = .ok (.putfield 204, 3) := dqr2 dqK_181 dqw_cX7_parses_257 6 rfl rfl rfl rfl rfl
theorem dX7_parses_266 : decode cX7_parses 266 = .ok (.iconst 1, 1) := dqr0 dqK_4 dqw_cX7_parses_257 9 rfl rfl
theorem dX7_parses_267 : decode cX7_parses 267 = .ok (.istore_n 3, 1) := dqr0 dqK_62 dqw_cX7_parses_257 10 rfl rfl
theorem dX7_parses_268 : decode cX7_parses 268 = .ok (.goto (-133), 3) := dqrs2 dqK_167 dqw_cX7_parses_257 11 rfl rfl rfl rfl (by decide)
theorem dX7_parses_271 : decode cX7_parses 271 = .ok (.iload_n 2, 1) := dqr0 dqK_28 dqw_cX7_parses_257 14 rfl rfl
theorem dX7_parses_272 : decode cX7_parses 272 = .ok (.iconst (-1), 1) := dqr0 dqK_2 dqw_cX7_parses_257 15 rfl rfl
theorem dX7_parses_273 : decode cX7_parses 273 = .ok (.if_icmp .ne 12, 3) := dqrs2 dqK_160 dqw_cX7_parses_257 16 rfl rfl rfl rfl (by decide)
theorem dX7_parses_276 : decode cX7_parses 276 = .ok (.aload_n 0, 1) := dqr0 dqK_42 dqw_cX7_parses_257 19 rfl rfl
theorem dX7_parses_277 : decode cX7_parses 277 = .ok (.getfield 207, 3) := dqr2 dqK_180 dqw_cX7_parses_257 20 rfl rfl rfl rfl rfl
theorem dqw_cX7_parses_280 : dqLF cX7_parses 280 [154, 0, 5, 4, 172, 28, 16, 91, 159, 0, 31, 28, 16, 123, 159, 0, 25, 28, 16, 40, 159, 0, 19, 28] := by decide +kernel
theorem dX7_parses_280 : decode cX7_parses 280 = .ok (.ifCond .ne 5, 3) := dqrs2 dqK_154 dqw_cX7_parses_280 0 rfl rfl rfl rfl (by decide)
theorem dX7_parses_283 : decode cX7_parses 283 = .ok (.iconst 1, 1) := dqr0 dqK_4 dqw_cX7_parses_280 3 rfl rfl
theorem dX7_parses_284 : decode cX7_parses 284 = .ok (.ireturn, 1) := dqr0 dqK_172 dqw_cX7_parses_280 4 rfl rfl
theorem dX7_parses_285 : decode cX7_parses 285 = .ok (.iload_n 2, 1) := dqr0 dqK_28 dqw_cX7_parses_280 5 rfl rfl
theorem dX7_parses_286 : decode cX7_parses 286 = .ok (.bipush 91, 2) := dqrs1 dqK_16 dqw_cX7_parses_280 6 rfl rfl rfl (by decide)
theorem dX7_parses_288 : decode cX7_parses 288 = .ok (.if_icmp .eq 31, 3) := dqrs2 dqK_159 dqw_cX7_parses_280 8 rfl rfl rfl rfl (by decide)
theorem dX7_parses_291 : decode cX7_parses 291 = .ok (.iload_n 2, 1) := dqr0 dqK_28 dqw_cX7_parses_280 11 rfl rfl
theorem dX7_parses_292 : decode cX7_parses 292 = .ok (.bipush 123, 2) := dqrs1 dqK_16 dqw_cX7_parses_280 12 rfl rfl rfl (by decide)
theorem dX7_parses_294 : decode cX7_parses 294 = .ok (.if_icmp .eq 25, 3) := dqrs2 dqK_159 dqw_cX7_parses_280 14 rfl rfl rfl rfl (by decide)
theorem dX7_parses_297 : decode cX7_parses 297 = .ok (.iload_n 2, 1) := dqr0 dqK_28 dqw_cX7_parses_280 17 rfl rfl
theorem dX7_parses_298 : decode cX7_parses 298 = .ok (.bipush 40, 2) := dqrs1 dqK_16 dqw_cX7_parses_280 18 rfl rfl rfl (by decide)
theorem dX7_parses_300 : decode cX7_parses 300 = .ok (.if_icmp .eq 19, 3) := dqrs2 dqK_159 dqw_cX7_parses_280 20 rfl rfl rfl rfl (by decide)
theorem dX7_parses_303 : decode cX7_parses 303 = .ok (.iload_n 2, 1) := dqr0 dqK_28 dqw_cX7_parses_280 23 rfl rfl
theorem dqw_cX7_parses_304 : dqLF cX7_parses 304 [184, 0, 214, 154, 0, 12, 28, 184, 0, 217, 154, 0, 5, 3, 172, 4, 62, 167, 255, 70, 167, 254, 193] := by decide +kernel
theorem dX7_parses_304 : decode cX7_parses 304 = .ok (.invokestatic 214, 3) := dqr2 dqK_184 dqw_cX7_parses_304 0 rfl rfl rfl rfl rfl
theorem dX7_parses_307 : decode cX7_parses 307 = .ok (.ifCond .ne 12, 3) := dqrs2 dqK_154 dqw_cX7_parses_304 3 rfl rfl rfl rfl (by decide)
theorem dX7_parses_310 : decode cX7_parses 310 = .ok (.iload_n 2, 1) := dqr0 dqK_28 dqw_cX7_parses_304 6 rfl rfl
theorem dX7_parses_311 : decode cX7_parses 311 = .ok (.invokestatic 217, 3) := dqr2 dqK_184 dqw_cX7_parses_304 7 rfl rfl rfl rfl rfl
theorem dX7_parses_314 : decode cX7_parses 314 = .ok (.ifCond .ne 5, 3) := dqrs2 dqK_154 dqw_cX7_parses_304 10 rfl rfl rfl rfl (by decide)
theorem dX7_parses_317 : decode cX7_parses 317 = .ok (.iconst 0, 1) := dqr0 dqK_3 dqw_cX7_parses_304 13 rfl rfl
theorem dX7_parses_318 : decode cX7_parses 318 = .ok (.ireturn, 1) := dqr0 dqK_172 dqw_cX7_parses_304 14 rfl rfl
theorem dX7_parses_319 : decode cX7_parses 319 = .ok (.iconst 1, 1) := dqr0 dqK_4 dqw_cX7_parses_304 15 rfl rfl
theorem dX7_parses_320 : decode cX7_parses 320 = .ok (.istore_n 3, 1) := dqr0 dqK_62 dqw_cX7_parses_304 16 rfl rfl
theorem dX7_parses_321 : decode cX7_parses 321 = .ok (.goto (-186), 3) := dqrs2 dqK_167 dqw_cX7_parses_304 17 rfl rfl rfl rfl (by decide)
theorem dX7_parses_324 : decode cX7_parses 324 = .ok (.goto (-319), 3) := dqrs2 dqK_167 dqw_cX7_parses_304 20 rfl rfl rfl rfl (by decide)
theorem dqw_cX7_standsInOther_0 : dqLF cX7_standsInOther 0 [3, 61, 3, 62, 29, 16, 8, 162, 0, 66, 3, 54, 4, 21, 4, 42, 180, 0, 52, 29, 46, 162, 0, 46] := by decide +kernel
theorem dX7_standsInOther_0 : decode cX7_standsInOther 0 = .ok (.iconst 0, 1) := dqr0 dqK_3 dqw_cX7_standsInOther_0 0 rfl rfl
theorem dX7_standsInOther_1 : decode cX7_standsInOther 1 = .ok (.istore_n 2, 1) := dqr0 dqK_61 dqw_cX7_standsInOther_0 1 rfl rfl
theorem dX7_standsInOther_2 : decode cX7_standsInOther 2 = .ok (.iconst 0, 1) := dqr0 dqK_3 dqw_cX7_standsInOther_0 2 rfl rfl
theorem dX7_standsInOther_3 : decode cX7_standsInOther 3 = .ok (.istore_n 3, 1) := dqr0 dqK_62 dqw_cX7_standsInOther_0 3 rfl rfl
theorem dX7_standsInOther_4 : decode cX7_standsInOther 4 = .ok (.iload_n 3, 1) := dqr0 dqK_29 dqw_cX7_standsInOther_0 4 rfl rfl
theorem dX7_standsInOther_5 : decode cX7_standsInOther 5 = .ok (.bipush 8, 2) := dqrs1 dqK_16 dqw_cX7_standsInOther_0 5 rfl rfl rfl (by decide)
theorem dX7_standsInOther_7 : decode cX7_standsInOther 7 = .ok (.if_icmp .ge 66, 3) := dqrs2 dqK_162 dqw_cX7_standsInOther_0 7 rfl rfl rfl rfl (by decide)
theorem dX7_standsInOther_10 : decode cX7_standsInOther 10 = .ok (.iconst 0, 1) := dqr0 dqK_3 dqw_cX7_standsInOther_0 10 rfl rfl
theorem dX7_standsInOther_11 : decode cX7_standsInOther 11 = .ok (.istore 4, 2) := dqr1 dqK_54 dqw_cX7_standsInOther_0 11 rfl rfl rfl
theorem dX7_standsInOther_13 : decode cX7_standsInOther 13 = .ok (.iload 4, 2) := dqr1 dqK_21 dqw_cX7_standsInOther_0 13 rfl rfl rfl
theorem dX7_standsInOther_15 : decode cX7_standsInOther 15 = .ok (.aload_n 0, 1) := dqr0 dqK_42 dqw_cX7_standsInOther_0 15 rfl rfl
theorem dX7_standsInOther_16 : decode cX7_standsInOther 16 = .ok (.getfield 52, 3) := dqr2 dqK_180 dqw_cX7_standsInOther_0 16 rfl rfl rfl rfl rfl
theorem dX7_standsInOther_19 : decode cX7_standsInOther 19 = .ok (.iload_n 3, 1) := dqr0 dqK_29 dqw_cX7_standsInOther_0 19 rfl rfl
theorem dX7_standsInOther_20 : decode cX7_standsInOther 20 = .ok (.iaload, 1) := dqr0 dqK_46 dqw_cX7_standsInOther_0 20 rfl rfl
theorem dX7_standsInOther_21 : decode cX7_standsInOther 21 = .ok (.if_icmp .ge 46, 3) := dqrs2 dqK_162 dqw_cX7_standsInOther_0 21 rfl rfl rfl rfl (by decide)
theorem dqw_cX7_standsInOther_24 : dqLF cX7_standsInOther 24 [42, 29, 182, 0, 220, 153, 0, 38, 28, 154, 0, 22, 42, 180, 0, 49, 16, 60, 29, 104, 21, 4, 96, 46] := by decide +kernel
theorem dX7_standsInOther_24 : decode cX7_standsInOther 24 = .ok (.aload_n 0, 1) := dqr0 dqK_42 dqw_cX7_standsInOther_24 0 rfl rfl
theorem dX7_standsInOther_25 : decode cX7_standsInOther 25 = .ok (.iload_n 3, 1) := dqr0 dqK_29 dqw_cX7_standsInOther_24 1 rfl rfl
theorem dX7_standsInOther_26 : decode cX7_standsInOther 26 = .ok (.invokevirtual 220, 3) := dqr2 dqK_182 dqw_cX7_standsInOther_24 2 rfl rfl rfl rfl rfl
theorem dX7_standsInOther_29 : decode cX7_standsInOther 29 = .ok (.ifCond .eq 38, 3) := dqrs2 dqK_153 dqw_cX7_standsInOther_24 5 rfl rfl rfl rfl (by decide)
theorem dX7_standsInOther_32 : decode cX7_standsInOther 32 = .ok (.iload_n 2, 1) := dqr0 dqK_28 dqw_cX7_standsInOther_24 8 rfl rfl
theorem dX7_standsInOther_33 : decode cX7_standsInOther 33 = .ok (.ifCond .ne 22, 3) := dqrs2 dqK_154 dqw_cX7_standsInOther_24 9 rfl rfl rfl rfl (by decide)
theorem dX7_standsInOther_36 : decode cX7_standsInOther 36 = .ok (.aload_n 0, 1) := dqr0 dqK_42 dqw_cX7_standsInOther_24 12 rfl rfl
theorem dX7_standsInOther_37 : decode cX7_standsInOther 37 = .ok (.getfield 49, 3) := dqr2 dqK_180 dqw_cX7_standsInOther_24 13 rfl rfl rfl rfl rfl
theorem dX7_standsInOther_40 : decode cX7_standsInOther 40 = .ok (.bipush 60, 2) := dqrs1 dqK_16 dqw_cX7_standsInOther_24 16 rfl rfl rfl (by decide)
theorem dX7_standsInOther_42 : decode cX7_standsInOther 42 = .ok (.iload_n 3, 1) := dqr0 dqK_29 dqw_cX7_standsInOther_24 18 rfl rfl
theorem dX7_standsInOther_43 : decode cX7_standsInOther 43 = .ok (.imul, 1) := dqr0 dqK_104 dqw_cX7_standsInOther_24 19 rfl rfl
theorem dX7_standsInOther_44 : decode cX7_standsInOther 44 = .ok (.iload 4, 2) := dqr1 dqK_21 dqw_cX7_standsInOther_24 20 rfl rfl rfl
theorem dX7_standsInOther_46 : decode cX7_standsInOther 46 = .ok (.iadd, 1) := dqr0 dqK_96 dqw_cX7_standsInOther_24 22 rfl rfl
theorem dX7_standsInOther_47 : decode cX7_standsInOther 47 = .ok (.iaload, 1) := dqr0 dqK_46 dqw_cX7_standsInOther_24 23 rfl rfl
theorem dqw_cX7_standsInOther_48 : dqLF cX7_standsInOther 48 [16, 65, 27, 96, 160, 0, 7, 4, 167, 0, 4, 3, 61, 132, 4, 1, 167, 255, 205, 132, 3, 1] := by decide +kernel
theorem dX7_standsInOther_48 : decode cX7_standsInOther 48 = .ok (.bipush 65, 2) := dqrs1 dqK_16 dqw_cX7_standsInOther_48 0 rfl rfl rfl (by decide)
theorem dX7_standsInOther_50 : decode cX7_standsInOther 50 = .ok (.iload_n 1, 1) := dqr0 dqK_27 dqw_cX7_standsInOther_48 2 rfl rfl
theorem dX7_standsInOther_51 : decode cX7_standsInOther 51 = .ok (.iadd, 1) := dqr0 dqK_96 dqw_cX7_standsInOther_48 3 rfl rfl
theorem dX7_standsInOther_52 : decode cX7_standsInOther 52 = .ok (.if_icmp .ne 7, 3) := dqrs2 dqK_160 dqw_cX7_standsInOther_48 4 rfl rfl rfl rfl (by decide)
theorem dX7_standsInOther_55 : decode cX7_standsInOther 55 = .ok (.iconst 1, 1) := dqr0 dqK_4 dqw_cX7_standsInOther_48 7 rfl rfl
theorem dX7_standsInOther_56 : decode cX7_standsInOther 56 = .ok (.goto 4, 3) := dqrs2 dqK_167 dqw_cX7_standsInOther_48 8 rfl rfl rfl rfl (by decide)
theorem dX7_standsInOther_59 : decode cX7_standsInOther 59 = .ok (.iconst 0, 1) := dqr0 dqK_3 dqw_cX7_standsInOther_48 11 rfl rfl
theorem dX7_standsInOther_60 : decode cX7_standsInOther 60 = .ok (.istore_n 2, 1) := dqr0 dqK_61 dqw_cX7_standsInOther_48 12 rfl rfl
theorem dX7_standsInOther_61 : decode cX7_standsInOther 61 = .ok (.iinc 4 1, 3) := dqri dqK_132 dqw_cX7_standsInOther_48 13 rfl rfl rfl rfl (by decide)
theorem dX7_standsInOther_64 : decode cX7_standsInOther 64 = .ok (.goto (-51), 3) := dqrs2 dqK_167 dqw_cX7_standsInOther_48 16 rfl rfl rfl rfl (by decide)
theorem dX7_standsInOther_67 : decode cX7_standsInOther 67 = .ok (.iinc 3 1, 3) := dqri dqK_132 dqw_cX7_standsInOther_48 19 rfl rfl rfl rfl (by decide)
theorem dqw_cX7_standsInOther_70 : dqLF cX7_standsInOther 70 [167, 255, 190, 28, 172] := by decide +kernel
theorem dX7_standsInOther_70 : decode cX7_standsInOther 70 = .ok (.goto (-66), 3) := dqrs2 dqK_167 dqw_cX7_standsInOther_70 0 rfl rfl rfl rfl (by decide)
theorem dX7_standsInOther_73 : decode cX7_standsInOther 73 = .ok (.iload_n 2, 1) := dqr0 dqK_28 dqw_cX7_standsInOther_70 3 rfl rfl
theorem dX7_standsInOther_74 : decode cX7_standsInOther 74 = .ok (.ireturn, 1) := dqr0 dqK_172 dqw_cX7_standsInOther_70 4 rfl rfl
theorem dqw_cX7_scene_0 : dqLF cX7_scene 0 [42, 3, 181, 0, 204, 42, 2, 181, 0, 223, 42, 182, 0, 210, 16, 65, 100, 60, 27, 133, 9, 20, 0, 167] := by decide +kernel
theorem dX7_scene_0 : decode cX7_scene 0 = .ok (.aload_n 0, 1) := dqr0 dqK_42 dqw_cX7_scene_0 0 rfl rfl
theorem dX7_scene_1 : decode cX7_scene 1 = .ok (.iconst 0, 1) := dqr0 dqK_3 dqw_cX7_scene_0 1 rfl rfl
theorem dX7_scene_2 : decode cX7_scene 2 = .ok (.putfield 204, 3) := dqr2 dqK_181 dqw_cX7_scene_0 2 rfl rfl rfl rfl rfl
theorem dX7_scene_5 : decode cX7_scene 5 = .ok (.aload_n 0, 1) := dqr0 dqK_42 dqw_cX7_scene_0 5 rfl rfl
theorem dX7_scene_6 : decode cX7_scene 6 = .ok (.iconst (-1), 1) := dqr0 dqK_2 dqw_cX7_scene_0 6 rfl rfl
theorem dX7_scene_7 : decode cX7_scene 7 = .ok (.putfield 223, 3) := dqr2 dqK_181 dqw_cX7_scene_0 7 rfl rfl rfl rfl rfl
theorem dX7_scene_10 : decode cX7_scene 10 = .ok (.aload_n 0, 1) := dqr0 dqK_42 dqw_cX7_scene_0 10 rfl rfl
theorem dX7_scene_11 : decode cX7_scene 11 = .ok (.invokevirtual 210, 3) := dqr2 dqK_182 dqw_cX7_scene_0 11 rfl rfl rfl rfl rfl
theorem dX7_scene_14 : decode cX7_scene 14 = .ok (.bipush 65, 2) := dqrs1 dqK_16 dqw_cX7_scene_0 14 rfl rfl rfl (by decide)
theorem dX7_scene_16 : decode cX7_scene 16 = .ok (.isub, 1) := dqr0 dqK_100 dqw_cX7_scene_0 16 rfl rfl
theorem dX7_scene_17 : decode cX7_scene 17 = .ok (.istore_n 1, 1) := dqr0 dqK_60 dqw_cX7_scene_0 17 rfl rfl
theorem dX7_scene_18 : decode cX7_scene 18 = .ok (.iload_n 1, 1) := dqr0 dqK_27 dqw_cX7_scene_0 18 rfl rfl
theorem dX7_scene_19 : decode cX7_scene 19 = .ok (.i2l, 1) := dqr0 dqK_133 dqw_cX7_scene_0 19 rfl rfl
theorem dX7_scene_20 : decode cX7_scene 20 = .ok (.lconst 0, 1) := dqr0 dqK_9 dqw_cX7_scene_0 20 rfl rfl
theorem dX7_scene_21 : decode cX7_scene 21 = .ok (.ldc2_w 167, 3) := dqr2 dqK_20 dqw_cX7_scene_0 21 rfl rfl rfl rfl rfl
theorem dqw_cX7_scene_24 : dqLF cX7_scene 24 [184, 0, 152, 61, 42, 89, 180, 0, 204, 28, 153, 0, 7, 4, 167, 0, 4, 3, 96, 181, 0, 204, 28] := by decide +kernel
theorem dX7_scene_24 : decode cX7_scene 24 = .ok (.invokestatic 152, 3) := dqr2 dqK_184 dqw_cX7_scene_24 0 rfl rfl rfl rfl rfl
theorem dX7_scene_27 : decode cX7_scene 27 = .ok (.istore_n 2, 1) := dqr0 dqK_61 dqw_cX7_scene_24 3 rfl rfl
theorem dX7_scene_28 : decode cX7_scene 28 = .ok (.aload_n 0, 1) := dqr0 dqK_42 dqw_cX7_scene_24 4 rfl rfl
theorem dX7_scene_29 : decode cX7_scene 29 = .ok (.dup, 1) := dqr0 dqK_89 dqw_cX7_scene_24 5 rfl rfl
theorem dX7_scene_30 : decode cX7_scene 30 = .ok (.getfield 204, 3) := dqr2 dqK_180 dqw_cX7_scene_24 6 rfl rfl rfl rfl rfl
theorem dX7_scene_33 : decode cX7_scene 33 = .ok (.iload_n 2, 1) := dqr0 dqK_28 dqw_cX7_scene_24 9 rfl rfl
theorem dX7_scene_34 : decode cX7_scene 34 = .ok (.ifCond .eq 7, 3) := dqrs2 dqK_153 dqw_cX7_scene_24 10 rfl rfl rfl rfl (by decide)
theorem dX7_scene_37 : decode cX7_scene 37 = .ok (.iconst 1, 1) := dqr0 dqK_4 dqw_cX7_scene_24 13 rfl rfl
theorem dX7_scene_38 : decode cX7_scene 38 = .ok (.goto 4, 3) := dqrs2 dqK_167 dqw_cX7_scene_24 14 rfl rfl rfl rfl (by decide)
theorem dX7_scene_41 : decode cX7_scene 41 = .ok (.iconst 0, 1) := dqr0 dqK_3 dqw_cX7_scene_24 17 rfl rfl
theorem dX7_scene_42 : decode cX7_scene 42 = .ok (.iadd, 1) := dqr0 dqK_96 dqw_cX7_scene_24 18 rfl rfl
theorem dX7_scene_43 : decode cX7_scene 43 = .ok (.putfield 204, 3) := dqr2 dqK_181 dqw_cX7_scene_24 19 rfl rfl rfl rfl rfl
theorem dX7_scene_46 : decode cX7_scene 46 = .ok (.iload_n 2, 1) := dqr0 dqK_28 dqw_cX7_scene_24 22 rfl rfl
theorem dqw_cX7_scene_47 : dqLF cX7_scene 47 [153, 0, 16, 42, 182, 0, 210, 16, 61, 160, 0, 7, 4, 167, 0, 4, 3, 61, 42, 89, 180, 0, 204, 28] := by decide +kernel
theorem dX7_scene_47 : decode cX7_scene 47 = .ok (.ifCond .eq 16, 3) := dqrs2 dqK_153 dqw_cX7_scene_47 0 rfl rfl rfl rfl (by decide)
theorem dX7_scene_50 : decode cX7_scene 50 = .ok (.aload_n 0, 1) := dqr0 dqK_42 dqw_cX7_scene_47 3 rfl rfl
theorem dX7_scene_51 : decode cX7_scene 51 = .ok (.invokevirtual 210, 3) := dqr2 dqK_182 dqw_cX7_scene_47 4 rfl rfl rfl rfl rfl
theorem dX7_scene_54 : decode cX7_scene 54 = .ok (.bipush 61, 2) := dqrs1 dqK_16 dqw_cX7_scene_47 7 rfl rfl rfl (by decide)
theorem dX7_scene_56 : decode cX7_scene 56 = .ok (.if_icmp .ne 7, 3) := dqrs2 dqK_160 dqw_cX7_scene_47 9 rfl rfl rfl rfl (by decide)
theorem dX7_scene_59 : decode cX7_scene 59 = .ok (.iconst 1, 1) := dqr0 dqK_4 dqw_cX7_scene_47 12 rfl rfl
theorem dX7_scene_60 : decode cX7_scene 60 = .ok (.goto 4, 3) := dqrs2 dqK_167 dqw_cX7_scene_47 13 rfl rfl rfl rfl (by decide)
theorem dX7_scene_63 : decode cX7_scene 63 = .ok (.iconst 0, 1) := dqr0 dqK_3 dqw_cX7_scene_47 16 rfl rfl
theorem dX7_scene_64 : decode cX7_scene 64 = .ok (.istore_n 2, 1) := dqr0 dqK_61 dqw_cX7_scene_47 17 rfl rfl
theorem dX7_scene_65 : decode cX7_scene 65 = .ok (.aload_n 0, 1) := dqr0 dqK_42 dqw_cX7_scene_47 18 rfl rfl
theorem dX7_scene_66 : decode cX7_scene 66 = .ok (.dup, 1) := dqr0 dqK_89 dqw_cX7_scene_47 19 rfl rfl
theorem dX7_scene_67 : decode cX7_scene 67 = .ok (.getfield 204, 3) := dqr2 dqK_180 dqw_cX7_scene_47 20 rfl rfl rfl rfl rfl
theorem dX7_scene_70 : decode cX7_scene 70 = .ok (.iload_n 2, 1) := dqr0 dqK_28 dqw_cX7_scene_47 23 rfl rfl
theorem dqw_cX7_scene_71 : dqLF cX7_scene 71 [153, 0, 7, 4, 167, 0, 4, 3, 96, 181, 0, 204, 28, 153, 0, 15, 42, 27, 182, 0, 226, 153, 0, 7] := by decide +kernel
theorem dX7_scene_71 : decode cX7_scene 71 = .ok (.ifCond .eq 7, 3) := dqrs2 dqK_153 dqw_cX7_scene_71 0 rfl rfl rfl rfl (by decide)
theorem dX7_scene_74 : decode cX7_scene 74 = .ok (.iconst 1, 1) := dqr0 dqK_4 dqw_cX7_scene_71 3 rfl rfl
theorem dX7_scene_75 : decode cX7_scene 75 = .ok (.goto 4, 3) := dqrs2 dqK_167 dqw_cX7_scene_71 4 rfl rfl rfl rfl (by decide)
theorem dX7_scene_78 : decode cX7_scene 78 = .ok (.iconst 0, 1) := dqr0 dqK_3 dqw_cX7_scene_71 7 rfl rfl
theorem dX7_scene_79 : decode cX7_scene 79 = .ok (.iadd, 1) := dqr0 dqK_96 dqw_cX7_scene_71 8 rfl rfl
theorem dX7_scene_80 : decode cX7_scene 80 = .ok (.putfield 204, 3) := dqr2 dqK_181 dqw_cX7_scene_71 9 rfl rfl rfl rfl rfl
theorem dX7_scene_83 : decode cX7_scene 83 = .ok (.iload_n 2, 1) := dqr0 dqK_28 dqw_cX7_scene_71 12 rfl rfl
theorem dX7_scene_84 : decode cX7_scene 84 = .ok (.ifCond .eq 15, 3) := dqrs2 dqK_153 dqw_cX7_scene_71 13 rfl rfl rfl rfl (by decide)
theorem dX7_scene_87 : decode cX7_scene 87 = .ok (.aload_n 0, 1) := dqr0 dqK_42 dqw_cX7_scene_71 16 rfl rfl
theorem dX7_scene_88 : decode cX7_scene 88 = .ok (.iload_n 1, 1) := dqr0 dqK_27 dqw_cX7_scene_71 17 rfl rfl
theorem dX7_scene_89 : decode cX7_scene 89 = .ok (.invokevirtual 226, 3) := dqr2 dqK_182 dqw_cX7_scene_71 18 rfl rfl rfl rfl rfl
theorem dX7_scene_92 : decode cX7_scene 92 = .ok (.ifCond .eq 7, 3) := dqrs2 dqK_153 dqw_cX7_scene_71 21 rfl rfl rfl rfl (by decide)
theorem dqw_cX7_scene_95 : dqLF cX7_scene 95 [4, 167, 0, 4, 3, 61, 42, 180, 0, 199, 62, 42, 3, 181, 0, 199, 28, 154, 0, 12, 17, 252, 24, 42] := by decide +kernel
theorem dX7_scene_95 : decode cX7_scene 95 = .ok (.iconst 1, 1) := dqr0 dqK_4 dqw_cX7_scene_95 0 rfl rfl
theorem dX7_scene_96 : decode cX7_scene 96 = .ok (.goto 4, 3) := dqrs2 dqK_167 dqw_cX7_scene_95 1 rfl rfl rfl rfl (by decide)
theorem dX7_scene_99 : decode cX7_scene 99 = .ok (.iconst 0, 1) := dqr0 dqK_3 dqw_cX7_scene_95 4 rfl rfl
theorem dX7_scene_100 : decode cX7_scene 100 = .ok (.istore_n 2, 1) := dqr0 dqK_61 dqw_cX7_scene_95 5 rfl rfl
theorem dX7_scene_101 : decode cX7_scene 101 = .ok (.aload_n 0, 1) := dqr0 dqK_42 dqw_cX7_scene_95 6 rfl rfl
theorem dX7_scene_102 : decode cX7_scene 102 = .ok (.getfield 199, 3) := dqr2 dqK_180 dqw_cX7_scene_95 7 rfl rfl rfl rfl rfl
theorem dX7_scene_105 : decode cX7_scene 105 = .ok (.istore_n 3, 1) := dqr0 dqK_62 dqw_cX7_scene_95 10 rfl rfl
theorem dX7_scene_106 : decode cX7_scene 106 = .ok (.aload_n 0, 1) := dqr0 dqK_42 dqw_cX7_scene_95 11 rfl rfl
theorem dX7_scene_107 : decode cX7_scene 107 = .ok (.iconst 0, 1) := dqr0 dqK_3 dqw_cX7_scene_95 12 rfl rfl
theorem dX7_scene_108 : decode cX7_scene 108 = .ok (.putfield 199, 3) := dqr2 dqK_181 dqw_cX7_scene_95 13 rfl rfl rfl rfl rfl
theorem dX7_scene_111 : decode cX7_scene 111 = .ok (.iload_n 2, 1) := dqr0 dqK_28 dqw_cX7_scene_95 16 rfl rfl
theorem dX7_scene_112 : decode cX7_scene 112 = .ok (.ifCond .ne 12, 3) := dqrs2 dqK_154 dqw_cX7_scene_95 17 rfl rfl rfl rfl (by decide)
theorem dX7_scene_115 : decode cX7_scene 115 = .ok (.sipush (-1000), 3) := dqrs2 dqK_17 dqw_cX7_scene_95 20 rfl rfl rfl rfl (by decide)
theorem dX7_scene_118 : decode cX7_scene 118 = .ok (.aload_n 0, 1) := dqr0 dqK_42 dqw_cX7_scene_95 23 rfl rfl
theorem dqw_cX7_scene_119 : dqLF cX7_scene 119 [180, 0, 204, 100, 172, 42, 180, 0, 223, 155, 0, 12, 17, 248, 48, 42, 180, 0, 223, 100, 172, 42, 27] := by decide +kernel
theorem dX7_scene_119 : decode cX7_scene 119 = .ok (.getfield 204, 3) := dqr2 dqK_180 dqw_cX7_scene_119 0 rfl rfl rfl rfl rfl
theorem dX7_scene_122 : decode cX7_scene 122 = .ok (.isub, 1) := dqr0 dqK_100 dqw_cX7_scene_119 3 rfl rfl
theorem dX7_scene_123 : decode cX7_scene 123 = .ok (.ireturn, 1) := dqr0 dqK_172 dqw_cX7_scene_119 4 rfl rfl
theorem dX7_scene_124 : decode cX7_scene 124 = .ok (.aload_n 0, 1) := dqr0 dqK_42 dqw_cX7_scene_119 5 rfl rfl
theorem dX7_scene_125 : decode cX7_scene 125 = .ok (.getfield 223, 3) := dqr2 dqK_180 dqw_cX7_scene_119 6 rfl rfl rfl rfl rfl
theorem dX7_scene_128 : decode cX7_scene 128 = .ok (.ifCond .lt 12, 3) := dqrs2 dqK_155 dqw_cX7_scene_119 9 rfl rfl rfl rfl (by decide)
theorem dX7_scene_131 : decode cX7_scene 131 = .ok (.sipush (-2000), 3) := dqrs2 dqK_17 dqw_cX7_scene_119 12 rfl rfl rfl rfl (by decide)
theorem dX7_scene_134 : decode cX7_scene 134 = .ok (.aload_n 0, 1) := dqr0 dqK_42 dqw_cX7_scene_119 15 rfl rfl
theorem dX7_scene_135 : decode cX7_scene 135 = .ok (.getfield 223, 3) := dqr2 dqK_180 dqw_cX7_scene_119 16 rfl rfl rfl rfl rfl
theorem dX7_scene_138 : decode cX7_scene 138 = .ok (.isub, 1) := dqr0 dqK_100 dqw_cX7_scene_119 19 rfl rfl
theorem dX7_scene_139 : decode cX7_scene 139 = .ok (.ireturn, 1) := dqr0 dqK_172 dqw_cX7_scene_119 20 rfl rfl
theorem dX7_scene_140 : decode cX7_scene 140 = .ok (.aload_n 0, 1) := dqr0 dqK_42 dqw_cX7_scene_119 21 rfl rfl
theorem dX7_scene_141 : decode cX7_scene 141 = .ok (.iload_n 1, 1) := dqr0 dqK_27 dqw_cX7_scene_119 22 rfl rfl
theorem dqw_cX7_scene_142 : dqLF cX7_scene 142 [182, 0, 229, 153, 0, 7, 17, 244, 72, 172, 42, 89, 180, 0, 232, 4, 96, 181, 0, 232, 42, 180, 0, 55] := by decide +kernel
theorem dX7_scene_142 : decode cX7_scene 142 = .ok (.invokevirtual 229, 3) := dqr2 dqK_182 dqw_cX7_scene_142 0 rfl rfl rfl rfl rfl
theorem dX7_scene_145 : decode cX7_scene 145 = .ok (.ifCond .eq 7, 3) := dqrs2 dqK_153 dqw_cX7_scene_142 3 rfl rfl rfl rfl (by decide)
theorem dX7_scene_148 : decode cX7_scene 148 = .ok (.sipush (-3000), 3) := dqrs2 dqK_17 dqw_cX7_scene_142 6 rfl rfl rfl rfl (by decide)
theorem dX7_scene_151 : decode cX7_scene 151 = .ok (.ireturn, 1) := dqr0 dqK_172 dqw_cX7_scene_142 9 rfl rfl
theorem dX7_scene_152 : decode cX7_scene 152 = .ok (.aload_n 0, 1) := dqr0 dqK_42 dqw_cX7_scene_142 10 rfl rfl
theorem dX7_scene_153 : decode cX7_scene 153 = .ok (.dup, 1) := dqr0 dqK_89 dqw_cX7_scene_142 11 rfl rfl
theorem dX7_scene_154 : decode cX7_scene 154 = .ok (.getfield 232, 3) := dqr2 dqK_180 dqw_cX7_scene_142 12 rfl rfl rfl rfl rfl
theorem dX7_scene_157 : decode cX7_scene 157 = .ok (.iconst 1, 1) := dqr0 dqK_4 dqw_cX7_scene_142 15 rfl rfl
theorem dX7_scene_158 : decode cX7_scene 158 = .ok (.iadd, 1) := dqr0 dqK_96 dqw_cX7_scene_142 16 rfl rfl
theorem dX7_scene_159 : decode cX7_scene 159 = .ok (.putfield 232, 3) := dqr2 dqK_181 dqw_cX7_scene_142 17 rfl rfl rfl rfl rfl
theorem dX7_scene_162 : decode cX7_scene 162 = .ok (.aload_n 0, 1) := dqr0 dqK_42 dqw_cX7_scene_142 20 rfl rfl
theorem dX7_scene_163 : decode cX7_scene 163 = .ok (.getfield 55, 3) := dqr2 dqK_180 dqw_cX7_scene_142 21 rfl rfl rfl rfl rfl
theorem dqw_cX7_scene_166 : dqLF cX7_scene 166 [27, 42, 180, 0, 232, 79, 42, 180, 0, 52, 27, 29, 5, 100, 79, 5, 54, 4, 21, 4, 29, 162, 0, 30] := by decide +kernel
theorem dX7_scene_166 : decode cX7_scene 166 = .ok (.iload_n 1, 1) := dqr0 dqK_27 dqw_cX7_scene_166 0 rfl rfl
theorem dX7_scene_167 : decode cX7_scene 167 = .ok (.aload_n 0, 1) := dqr0 dqK_42 dqw_cX7_scene_166 1 rfl rfl
theorem dX7_scene_168 : decode cX7_scene 168 = .ok (.getfield 232, 3) := dqr2 dqK_180 dqw_cX7_scene_166 2 rfl rfl rfl rfl rfl
theorem dX7_scene_171 : decode cX7_scene 171 = .ok (.iastore, 1) := dqr0 dqK_79 dqw_cX7_scene_166 5 rfl rfl
theorem dX7_scene_172 : decode cX7_scene 172 = .ok (.aload_n 0, 1) := dqr0 dqK_42 dqw_cX7_scene_166 6 rfl rfl
theorem dX7_scene_173 : decode cX7_scene 173 = .ok (.getfield 52, 3) := dqr2 dqK_180 dqw_cX7_scene_166 7 rfl rfl rfl rfl rfl
theorem dX7_scene_176 : decode cX7_scene 176 = .ok (.iload_n 1, 1) := dqr0 dqK_27 dqw_cX7_scene_166 10 rfl rfl
theorem dX7_scene_177 : decode cX7_scene 177 = .ok (.iload_n 3, 1) := dqr0 dqK_29 dqw_cX7_scene_166 11 rfl rfl
theorem dX7_scene_178 : decode cX7_scene 178 = .ok (.iconst 2, 1) := dqr0 dqK_5 dqw_cX7_scene_166 12 rfl rfl
theorem dX7_scene_179 : decode cX7_scene 179 = .ok (.isub, 1) := dqr0 dqK_100 dqw_cX7_scene_166 13 rfl rfl
theorem dX7_scene_180 : decode cX7_scene 180 = .ok (.iastore, 1) := dqr0 dqK_79 dqw_cX7_scene_166 14 rfl rfl
theorem dX7_scene_181 : decode cX7_scene 181 = .ok (.iconst 2, 1) := dqr0 dqK_5 dqw_cX7_scene_166 15 rfl rfl
theorem dX7_scene_182 : decode cX7_scene 182 = .ok (.istore 4, 2) := dqr1 dqK_54 dqw_cX7_scene_166 16 rfl rfl rfl
theorem dX7_scene_184 : decode cX7_scene 184 = .ok (.iload 4, 2) := dqr1 dqK_21 dqw_cX7_scene_166 18 rfl rfl rfl
theorem dX7_scene_186 : decode cX7_scene 186 = .ok (.iload_n 3, 1) := dqr0 dqK_29 dqw_cX7_scene_166 20 rfl rfl
theorem dX7_scene_187 : decode cX7_scene 187 = .ok (.if_icmp .ge 30, 3) := dqrs2 dqK_162 dqw_cX7_scene_166 21 rfl rfl rfl rfl (by decide)
theorem dqw_cX7_scene_190 : dqLF cX7_scene 190 [42, 180, 0, 49, 16, 60, 27, 104, 21, 4, 96, 5, 100, 42, 180, 0, 46, 21, 4, 46, 79, 132, 4, 1] := by decide +kernel
theorem dX7_scene_190 : decode cX7_scene 190 = .ok (.aload_n 0, 1) := dqr0 dqK_42 dqw_cX7_scene_190 0 rfl rfl
theorem dX7_scene_191 : decode cX7_scene 191 = .ok (.getfield 49, 3) := dqr2 dqK_180 dqw_cX7_scene_190 1 rfl rfl rfl rfl rfl
theorem dX7_scene_194 : decode cX7_scene 194 = .ok (.bipush 60, 2) := dqrs1 dqK_16 dqw_cX7_scene_190 4 rfl rfl rfl (by decide)
theorem dX7_scene_196 : decode cX7_scene 196 = .ok (.iload_n 1, 1) := dqr0 dqK_27 dqw_cX7_scene_190 6 rfl rfl
theorem dX7_scene_197 : decode cX7_scene 197 = .ok (.imul, 1) := dqr0 dqK_104 dqw_cX7_scene_190 7 rfl rfl
theorem dX7_scene_198 : decode cX7_scene 198 = .ok (.iload 4, 2) := dqr1 dqK_21 dqw_cX7_scene_190 8 rfl rfl rfl
theorem dX7_scene_200 : decode cX7_scene 200 = .ok (.iadd, 1) := dqr0 dqK_96 dqw_cX7_scene_190 10 rfl rfl
theorem dX7_scene_201 : decode cX7_scene 201 = .ok (.iconst 2, 1) := dqr0 dqK_5 dqw_cX7_scene_190 11 rfl rfl
theorem dX7_scene_202 : decode cX7_scene 202 = .ok (.isub, 1) := dqr0 dqK_100 dqw_cX7_scene_190 12 rfl rfl
theorem dX7_scene_203 : decode cX7_scene 203 = .ok (.aload_n 0, 1) := dqr0 dqK_42 dqw_cX7_scene_190 13 rfl rfl
theorem dX7_scene_204 : decode cX7_scene 204 = .ok (.getfield 46, 3) := dqr2 dqK_180 dqw_cX7_scene_190 14 rfl rfl rfl rfl rfl
theorem dX7_scene_207 : decode cX7_scene 207 = .ok (.iload 4, 2) := dqr1 dqK_21 dqw_cX7_scene_190 17 rfl rfl rfl
theorem dX7_scene_209 : decode cX7_scene 209 = .ok (.iaload, 1) := dqr0 dqK_46 dqw_cX7_scene_190 19 rfl rfl
theorem dX7_scene_210 : decode cX7_scene 210 = .ok (.iastore, 1) := dqr0 dqK_79 dqw_cX7_scene_190 20 rfl rfl
theorem dX7_scene_211 : decode cX7_scene 211 = .ok (.iinc 4 1, 3) := dqri dqK_132 dqw_cX7_scene_190 21 rfl rfl rfl rfl (by decide)
theorem dqw_cX7_scene_214 : dqLF cX7_scene 214 [167, 255, 226, 27, 172] := by decide +kernel
theorem dX7_scene_214 : decode cX7_scene 214 = .ok (.goto (-30), 3) := dqrs2 dqK_167 dqw_cX7_scene_214 0 rfl rfl rfl rfl (by decide)
theorem dX7_scene_217 : decode cX7_scene 217 = .ok (.iload_n 1, 1) := dqr0 dqK_27 dqw_cX7_scene_214 3 rfl rfl
theorem dX7_scene_218 : decode cX7_scene 218 = .ok (.ireturn, 1) := dqr0 dqK_172 dqw_cX7_scene_214 4 rfl rfl
theorem dqw_cX7_hall_0 : dqLF cX7_hall 0 [27, 133, 9, 20, 0, 235, 184, 0, 152, 154, 0, 6, 16, 254, 172, 42, 180, 0, 61, 61, 42, 27] := by decide +kernel
theorem dX7_hall_0 : decode cX7_hall 0 = .ok (.iload_n 1, 1) := dqr0 dqK_27 dqw_cX7_hall_0 0 rfl rfl
theorem dX7_hall_1 : decode cX7_hall 1 = .ok (.i2l, 1) := dqr0 dqK_133 dqw_cX7_hall_0 1 rfl rfl
theorem dX7_hall_2 : decode cX7_hall 2 = .ok (.lconst 0, 1) := dqr0 dqK_9 dqw_cX7_hall_0 2 rfl rfl
theorem dX7_hall_3 : decode cX7_hall 3 = .ok (.ldc2_w 235, 3) := dqr2 dqK_20 dqw_cX7_hall_0 3 rfl rfl rfl rfl rfl
theorem dX7_hall_6 : decode cX7_hall 6 = .ok (.invokestatic 152, 3) := dqr2 dqK_184 dqw_cX7_hall_0 6 rfl rfl rfl rfl rfl
theorem dX7_hall_9 : decode cX7_hall 9 = .ok (.ifCond .ne 6, 3) := dqrs2 dqK_154 dqw_cX7_hall_0 9 rfl rfl rfl rfl (by decide)
theorem dX7_hall_12 : decode cX7_hall 12 = .ok (.bipush (-2), 2) := dqrs1 dqK_16 dqw_cX7_hall_0 12 rfl rfl rfl (by decide)
theorem dX7_hall_14 : decode cX7_hall 14 = .ok (.ireturn, 1) := dqr0 dqK_172 dqw_cX7_hall_0 14 rfl rfl
theorem dX7_hall_15 : decode cX7_hall 15 = .ok (.aload_n 0, 1) := dqr0 dqK_42 dqw_cX7_hall_0 15 rfl rfl
theorem dX7_hall_16 : decode cX7_hall 16 = .ok (.getfield 61, 3) := dqr2 dqK_180 dqw_cX7_hall_0 16 rfl rfl rfl rfl rfl
theorem dX7_hall_19 : decode cX7_hall 19 = .ok (.istore_n 2, 1) := dqr0 dqK_61 dqw_cX7_hall_0 19 rfl rfl
theorem dX7_hall_20 : decode cX7_hall 20 = .ok (.aload_n 0, 1) := dqr0 dqK_42 dqw_cX7_hall_0 20 rfl rfl
theorem dX7_hall_21 : decode cX7_hall 21 = .ok (.iload_n 1, 1) := dqr0 dqK_27 dqw_cX7_hall_0 21 rfl rfl
theorem dqw_cX7_hall_22 : dqLF cX7_hall 22 [181, 0, 61, 28, 172] := by decide +kernel
theorem dX7_hall_22 : decode cX7_hall 22 = .ok (.putfield 61, 3) := dqr2 dqK_181 dqw_cX7_hall_22 0 rfl rfl rfl rfl rfl
theorem dX7_hall_25 : decode cX7_hall 25 = .ok (.iload_n 2, 1) := dqr0 dqK_28 dqw_cX7_hall_22 3 rfl rfl
theorem dX7_hall_26 : decode cX7_hall 26 = .ok (.ireturn, 1) := dqr0 dqK_172 dqw_cX7_hall_22 4 rfl rfl
theorem dqw_cX7_behind_0 : dqLF cX7_behind 0 [3, 62, 28, 54, 4, 42, 180, 0, 49, 16, 60, 27, 104, 21, 4, 96, 46, 54, 5, 21, 5, 16, 91] := by decide +kernel
theorem dX7_behind_0 : decode cX7_behind 0 = .ok (.iconst 0, 1) := dqr0 dqK_3 dqw_cX7_behind_0 0 rfl rfl
theorem dX7_behind_1 : decode cX7_behind 1 = .ok (.istore_n 3, 1) := dqr0 dqK_62 dqw_cX7_behind_0 1 rfl rfl
theorem dX7_behind_2 : decode cX7_behind 2 = .ok (.iload_n 2, 1) := dqr0 dqK_28 dqw_cX7_behind_0 2 rfl rfl
theorem dX7_behind_3 : decode cX7_behind 3 = .ok (.istore 4, 2) := dqr1 dqK_54 dqw_cX7_behind_0 3 rfl rfl rfl
theorem dX7_behind_5 : decode cX7_behind 5 = .ok (.aload_n 0, 1) := dqr0 dqK_42 dqw_cX7_behind_0 5 rfl rfl
theorem dX7_behind_6 : decode cX7_behind 6 = .ok (.getfield 49, 3) := dqr2 dqK_180 dqw_cX7_behind_0 6 rfl rfl rfl rfl rfl
theorem dX7_behind_9 : decode cX7_behind 9 = .ok (.bipush 60, 2) := dqrs1 dqK_16 dqw_cX7_behind_0 9 rfl rfl rfl (by decide)
theorem dX7_behind_11 : decode cX7_behind 11 = .ok (.iload_n 1, 1) := dqr0 dqK_27 dqw_cX7_behind_0 11 rfl rfl
theorem dX7_behind_12 : decode cX7_behind 12 = .ok (.imul, 1) := dqr0 dqK_104 dqw_cX7_behind_0 12 rfl rfl
theorem dX7_behind_13 : decode cX7_behind 13 = .ok (.iload 4, 2) := dqr1 dqK_21 dqw_cX7_behind_0 13 rfl rfl rfl
theorem dX7_behind_15 : decode cX7_behind 15 = .ok (.iadd, 1) := dqr0 dqK_96 dqw_cX7_behind_0 15 rfl rfl
theorem dX7_behind_16 : decode cX7_behind 16 = .ok (.iaload, 1) := dqr0 dqK_46 dqw_cX7_behind_0 16 rfl rfl
theorem dX7_behind_17 : decode cX7_behind 17 = .ok (.istore 5, 2) := dqr1 dqK_54 dqw_cX7_behind_0 17 rfl rfl rfl
theorem dX7_behind_19 : decode cX7_behind 19 = .ok (.iload 5, 2) := dqr1 dqK_21 dqw_cX7_behind_0 19 rfl rfl rfl
theorem dX7_behind_21 : decode cX7_behind 21 = .ok (.bipush 91, 2) := dqrs1 dqK_16 dqw_cX7_behind_0 21 rfl rfl rfl (by decide)
theorem dqw_cX7_behind_23 : dqLF cX7_behind 23 [159, 0, 17, 21, 5, 16, 123, 159, 0, 10, 21, 5, 16, 40, 160, 0, 6, 132, 3, 1, 21, 5, 16, 124] := by decide +kernel
theorem dX7_behind_23 : decode cX7_behind 23 = .ok (.if_icmp .eq 17, 3) := dqrs2 dqK_159 dqw_cX7_behind_23 0 rfl rfl rfl rfl (by decide)
theorem dX7_behind_26 : decode cX7_behind 26 = .ok (.iload 5, 2) := dqr1 dqK_21 dqw_cX7_behind_23 3 rfl rfl rfl
theorem dX7_behind_28 : decode cX7_behind 28 = .ok (.bipush 123, 2) := dqrs1 dqK_16 dqw_cX7_behind_23 5 rfl rfl rfl (by decide)
theorem dX7_behind_30 : decode cX7_behind 30 = .ok (.if_icmp .eq 10, 3) := dqrs2 dqK_159 dqw_cX7_behind_23 7 rfl rfl rfl rfl (by decide)
theorem dX7_behind_33 : decode cX7_behind 33 = .ok (.iload 5, 2) := dqr1 dqK_21 dqw_cX7_behind_23 10 rfl rfl rfl
theorem dX7_behind_35 : decode cX7_behind 35 = .ok (.bipush 40, 2) := dqrs1 dqK_16 dqw_cX7_behind_23 12 rfl rfl rfl (by decide)
theorem dX7_behind_37 : decode cX7_behind 37 = .ok (.if_icmp .ne 6, 3) := dqrs2 dqK_160 dqw_cX7_behind_23 14 rfl rfl rfl rfl (by decide)
theorem dX7_behind_40 : decode cX7_behind 40 = .ok (.iinc 3 1, 3) := dqri dqK_132 dqw_cX7_behind_23 17 rfl rfl rfl rfl (by decide)
theorem dX7_behind_43 : decode cX7_behind 43 = .ok (.iload 5, 2) := dqr1 dqK_21 dqw_cX7_behind_23 20 rfl rfl rfl
theorem dX7_behind_45 : decode cX7_behind 45 = .ok (.bipush 124, 2) := dqrs1 dqK_16 dqw_cX7_behind_23 22 rfl rfl rfl (by decide)
theorem dqw_cX7_behind_47 : dqLF cX7_behind 47 [160, 0, 11, 29, 4, 160, 0, 6, 21, 4, 172, 21, 5, 16, 93, 159, 0, 17, 21, 5, 16, 125] := by decide +kernel
theorem dX7_behind_47 : decode cX7_behind 47 = .ok (.if_icmp .ne 11, 3) := dqrs2 dqK_160 dqw_cX7_behind_47 0 rfl rfl rfl rfl (by decide)
theorem dX7_behind_50 : decode cX7_behind 50 = .ok (.iload_n 3, 1) := dqr0 dqK_29 dqw_cX7_behind_47 3 rfl rfl
theorem dX7_behind_51 : decode cX7_behind 51 = .ok (.iconst 1, 1) := dqr0 dqK_4 dqw_cX7_behind_47 4 rfl rfl
theorem dX7_behind_52 : decode cX7_behind 52 = .ok (.if_icmp .ne 6, 3) := dqrs2 dqK_160 dqw_cX7_behind_47 5 rfl rfl rfl rfl (by decide)
theorem dX7_behind_55 : decode cX7_behind 55 = .ok (.iload 4, 2) := dqr1 dqK_21 dqw_cX7_behind_47 8 rfl rfl rfl
theorem dX7_behind_57 : decode cX7_behind 57 = .ok (.ireturn, 1) := dqr0 dqK_172 dqw_cX7_behind_47 10 rfl rfl
theorem dX7_behind_58 : decode cX7_behind 58 = .ok (.iload 5, 2) := dqr1 dqK_21 dqw_cX7_behind_47 11 rfl rfl rfl
theorem dX7_behind_60 : decode cX7_behind 60 = .ok (.bipush 93, 2) := dqrs1 dqK_16 dqw_cX7_behind_47 13 rfl rfl rfl (by decide)
theorem dX7_behind_62 : decode cX7_behind 62 = .ok (.if_icmp .eq 17, 3) := dqrs2 dqK_159 dqw_cX7_behind_47 15 rfl rfl rfl rfl (by decide)
theorem dX7_behind_65 : decode cX7_behind 65 = .ok (.iload 5, 2) := dqr1 dqK_21 dqw_cX7_behind_47 18 rfl rfl rfl
theorem dX7_behind_67 : decode cX7_behind 67 = .ok (.bipush 125, 2) := dqrs1 dqK_16 dqw_cX7_behind_47 20 rfl rfl rfl (by decide)
theorem dqw_cX7_behind_69 : dqLF cX7_behind 69 [159, 0, 10, 21, 5, 16, 41, 160, 0, 13, 132, 3, 255, 29, 154, 0, 6, 21, 4, 172, 132, 4, 1] := by decide +kernel
theorem dX7_behind_69 : decode cX7_behind 69 = .ok (.if_icmp .eq 10, 3) := dqrs2 dqK_159 dqw_cX7_behind_69 0 rfl rfl rfl rfl (by decide)
theorem dX7_behind_72 : decode cX7_behind 72 = .ok (.iload 5, 2) := dqr1 dqK_21 dqw_cX7_behind_69 3 rfl rfl rfl
theorem dX7_behind_74 : decode cX7_behind 74 = .ok (.bipush 41, 2) := dqrs1 dqK_16 dqw_cX7_behind_69 5 rfl rfl rfl (by decide)
theorem dX7_behind_76 : decode cX7_behind 76 = .ok (.if_icmp .ne 13, 3) := dqrs2 dqK_160 dqw_cX7_behind_69 7 rfl rfl rfl rfl (by decide)
theorem dX7_behind_79 : decode cX7_behind 79 = .ok (.iinc 3 (-1), 3) := dqri dqK_132 dqw_cX7_behind_69 10 rfl rfl rfl rfl (by decide)
theorem dX7_behind_82 : decode cX7_behind 82 = .ok (.iload_n 3, 1) := dqr0 dqK_29 dqw_cX7_behind_69 13 rfl rfl
theorem dX7_behind_83 : decode cX7_behind 83 = .ok (.ifCond .ne 6, 3) := dqrs2 dqK_154 dqw_cX7_behind_69 14 rfl rfl rfl rfl (by decide)
theorem dX7_behind_86 : decode cX7_behind 86 = .ok (.iload 4, 2) := dqr1 dqK_21 dqw_cX7_behind_69 17 rfl rfl rfl
theorem dX7_behind_88 : decode cX7_behind 88 = .ok (.ireturn, 1) := dqr0 dqK_172 dqw_cX7_behind_69 19 rfl rfl
theorem dX7_behind_89 : decode cX7_behind 89 = .ok (.iinc 4 1, 3) := dqri dqK_132 dqw_cX7_behind_69 20 rfl rfl rfl rfl (by decide)
theorem dqw_cX7_behind_92 : dqLF cX7_behind 92 [167, 255, 169] := by decide +kernel
theorem dX7_behind_92 : decode cX7_behind 92 = .ok (.goto (-87), 3) := dqrs2 dqK_167 dqw_cX7_behind_92 0 rfl rfl rfl rfl (by decide)
theorem dqw_cX7_endFrom_0 : dqLF cX7_endFrom 0 [4, 62, 28, 4, 96, 54, 4, 42, 180, 0, 49, 16, 60, 27, 104, 21, 4, 96, 46, 54, 5, 21, 5] := by decide +kernel
theorem dX7_endFrom_0 : decode cX7_endFrom 0 = .ok (.iconst 1, 1) := dqr0 dqK_4 dqw_cX7_endFrom_0 0 rfl rfl
theorem dX7_endFrom_1 : decode cX7_endFrom 1 = .ok (.istore_n 3, 1) := dqr0 dqK_62 dqw_cX7_endFrom_0 1 rfl rfl
theorem dX7_endFrom_2 : decode cX7_endFrom 2 = .ok (.iload_n 2, 1) := dqr0 dqK_28 dqw_cX7_endFrom_0 2 rfl rfl
theorem dX7_endFrom_3 : decode cX7_endFrom 3 = .ok (.iconst 1, 1) := dqr0 dqK_4 dqw_cX7_endFrom_0 3 rfl rfl
theorem dX7_endFrom_4 : decode cX7_endFrom 4 = .ok (.iadd, 1) := dqr0 dqK_96 dqw_cX7_endFrom_0 4 rfl rfl
theorem dX7_endFrom_5 : decode cX7_endFrom 5 = .ok (.istore 4, 2) := dqr1 dqK_54 dqw_cX7_endFrom_0 5 rfl rfl rfl
theorem dX7_endFrom_7 : decode cX7_endFrom 7 = .ok (.aload_n 0, 1) := dqr0 dqK_42 dqw_cX7_endFrom_0 7 rfl rfl
theorem dX7_endFrom_8 : decode cX7_endFrom 8 = .ok (.getfield 49, 3) := dqr2 dqK_180 dqw_cX7_endFrom_0 8 rfl rfl rfl rfl rfl
theorem dX7_endFrom_11 : decode cX7_endFrom 11 = .ok (.bipush 60, 2) := dqrs1 dqK_16 dqw_cX7_endFrom_0 11 rfl rfl rfl (by decide)
theorem dX7_endFrom_13 : decode cX7_endFrom 13 = .ok (.iload_n 1, 1) := dqr0 dqK_27 dqw_cX7_endFrom_0 13 rfl rfl
theorem dX7_endFrom_14 : decode cX7_endFrom 14 = .ok (.imul, 1) := dqr0 dqK_104 dqw_cX7_endFrom_0 14 rfl rfl
theorem dX7_endFrom_15 : decode cX7_endFrom 15 = .ok (.iload 4, 2) := dqr1 dqK_21 dqw_cX7_endFrom_0 15 rfl rfl rfl
theorem dX7_endFrom_17 : decode cX7_endFrom 17 = .ok (.iadd, 1) := dqr0 dqK_96 dqw_cX7_endFrom_0 17 rfl rfl
theorem dX7_endFrom_18 : decode cX7_endFrom 18 = .ok (.iaload, 1) := dqr0 dqK_46 dqw_cX7_endFrom_0 18 rfl rfl
theorem dX7_endFrom_19 : decode cX7_endFrom 19 = .ok (.istore 5, 2) := dqr1 dqK_54 dqw_cX7_endFrom_0 19 rfl rfl rfl
theorem dX7_endFrom_21 : decode cX7_endFrom 21 = .ok (.iload 5, 2) := dqr1 dqK_21 dqw_cX7_endFrom_0 21 rfl rfl rfl
theorem dqw_cX7_endFrom_23 : dqLF cX7_endFrom 23 [16, 91, 159, 0, 17, 21, 5, 16, 123, 159, 0, 10, 21, 5, 16, 40, 160, 0, 6, 132, 3, 1, 21, 5] := by decide +kernel
theorem dX7_endFrom_23 : decode cX7_endFrom 23 = .ok (.bipush 91, 2) := dqrs1 dqK_16 dqw_cX7_endFrom_23 0 rfl rfl rfl (by decide)
theorem dX7_endFrom_25 : decode cX7_endFrom 25 = .ok (.if_icmp .eq 17, 3) := dqrs2 dqK_159 dqw_cX7_endFrom_23 2 rfl rfl rfl rfl (by decide)
theorem dX7_endFrom_28 : decode cX7_endFrom 28 = .ok (.iload 5, 2) := dqr1 dqK_21 dqw_cX7_endFrom_23 5 rfl rfl rfl
theorem dX7_endFrom_30 : decode cX7_endFrom 30 = .ok (.bipush 123, 2) := dqrs1 dqK_16 dqw_cX7_endFrom_23 7 rfl rfl rfl (by decide)
theorem dX7_endFrom_32 : decode cX7_endFrom 32 = .ok (.if_icmp .eq 10, 3) := dqrs2 dqK_159 dqw_cX7_endFrom_23 9 rfl rfl rfl rfl (by decide)
theorem dX7_endFrom_35 : decode cX7_endFrom 35 = .ok (.iload 5, 2) := dqr1 dqK_21 dqw_cX7_endFrom_23 12 rfl rfl rfl
theorem dX7_endFrom_37 : decode cX7_endFrom 37 = .ok (.bipush 40, 2) := dqrs1 dqK_16 dqw_cX7_endFrom_23 14 rfl rfl rfl (by decide)
theorem dX7_endFrom_39 : decode cX7_endFrom 39 = .ok (.if_icmp .ne 6, 3) := dqrs2 dqK_160 dqw_cX7_endFrom_23 16 rfl rfl rfl rfl (by decide)
theorem dX7_endFrom_42 : decode cX7_endFrom 42 = .ok (.iinc 3 1, 3) := dqri dqK_132 dqw_cX7_endFrom_23 19 rfl rfl rfl rfl (by decide)
theorem dX7_endFrom_45 : decode cX7_endFrom 45 = .ok (.iload 5, 2) := dqr1 dqK_21 dqw_cX7_endFrom_23 22 rfl rfl rfl
theorem dqw_cX7_endFrom_47 : dqLF cX7_endFrom 47 [16, 93, 159, 0, 17, 21, 5, 16, 125, 159, 0, 10, 21, 5, 16, 41, 160, 0, 6, 132, 3, 255, 29] := by decide +kernel
theorem dX7_endFrom_47 : decode cX7_endFrom 47 = .ok (.bipush 93, 2) := dqrs1 dqK_16 dqw_cX7_endFrom_47 0 rfl rfl rfl (by decide)
theorem dX7_endFrom_49 : decode cX7_endFrom 49 = .ok (.if_icmp .eq 17, 3) := dqrs2 dqK_159 dqw_cX7_endFrom_47 2 rfl rfl rfl rfl (by decide)
theorem dX7_endFrom_52 : decode cX7_endFrom 52 = .ok (.iload 5, 2) := dqr1 dqK_21 dqw_cX7_endFrom_47 5 rfl rfl rfl
theorem dX7_endFrom_54 : decode cX7_endFrom 54 = .ok (.bipush 125, 2) := dqrs1 dqK_16 dqw_cX7_endFrom_47 7 rfl rfl rfl (by decide)
theorem dX7_endFrom_56 : decode cX7_endFrom 56 = .ok (.if_icmp .eq 10, 3) := dqrs2 dqK_159 dqw_cX7_endFrom_47 9 rfl rfl rfl rfl (by decide)
theorem dX7_endFrom_59 : decode cX7_endFrom 59 = .ok (.iload 5, 2) := dqr1 dqK_21 dqw_cX7_endFrom_47 12 rfl rfl rfl
theorem dX7_endFrom_61 : decode cX7_endFrom 61 = .ok (.bipush 41, 2) := dqrs1 dqK_16 dqw_cX7_endFrom_47 14 rfl rfl rfl (by decide)
theorem dX7_endFrom_63 : decode cX7_endFrom 63 = .ok (.if_icmp .ne 6, 3) := dqrs2 dqK_160 dqw_cX7_endFrom_47 16 rfl rfl rfl rfl (by decide)
theorem dX7_endFrom_66 : decode cX7_endFrom 66 = .ok (.iinc 3 (-1), 3) := dqri dqK_132 dqw_cX7_endFrom_47 19 rfl rfl rfl rfl (by decide)
theorem dX7_endFrom_69 : decode cX7_endFrom 69 = .ok (.iload_n 3, 1) := dqr0 dqK_29 dqw_cX7_endFrom_47 22 rfl rfl
theorem dqw_cX7_endFrom_70 : dqLF cX7_endFrom 70 [154, 0, 6, 21, 4, 172, 132, 4, 1, 167, 255, 184] := by decide +kernel
theorem dX7_endFrom_70 : decode cX7_endFrom 70 = .ok (.ifCond .ne 6, 3) := dqrs2 dqK_154 dqw_cX7_endFrom_70 0 rfl rfl rfl rfl (by decide)
theorem dX7_endFrom_73 : decode cX7_endFrom 73 = .ok (.iload 4, 2) := dqr1 dqK_21 dqw_cX7_endFrom_70 3 rfl rfl rfl
theorem dX7_endFrom_75 : decode cX7_endFrom 75 = .ok (.ireturn, 1) := dqr0 dqK_172 dqw_cX7_endFrom_70 5 rfl rfl
theorem dX7_endFrom_76 : decode cX7_endFrom 76 = .ok (.iinc 4 1, 3) := dqri dqK_132 dqw_cX7_endFrom_70 6 rfl rfl rfl rfl (by decide)
theorem dX7_endFrom_79 : decode cX7_endFrom 79 = .ok (.goto (-72), 3) := dqrs2 dqK_167 dqw_cX7_endFrom_70 9 rfl rfl rfl rfl (by decide)
theorem dqw_cX7_chooses_0 : dqLF cX7_chooses 0 [42, 180, 0, 237, 27, 133, 113, 136, 61, 42, 89, 180, 0, 237, 27, 133, 109, 181, 0, 237, 28, 172] := by decide +kernel
theorem dX7_chooses_0 : decode cX7_chooses 0 = .ok (.aload_n 0, 1) := dqr0 dqK_42 dqw_cX7_chooses_0 0 rfl rfl
theorem dX7_chooses_1 : decode cX7_chooses 1 = .ok (.getfield 237, 3) := dqr2 dqK_180 dqw_cX7_chooses_0 1 rfl rfl rfl rfl rfl
theorem dX7_chooses_4 : decode cX7_chooses 4 = .ok (.iload_n 1, 1) := dqr0 dqK_27 dqw_cX7_chooses_0 4 rfl rfl
theorem dX7_chooses_5 : decode cX7_chooses 5 = .ok (.i2l, 1) := dqr0 dqK_133 dqw_cX7_chooses_0 5 rfl rfl
theorem dX7_chooses_6 : decode cX7_chooses 6 = .ok (.lrem, 1) := dqr0 dqK_113 dqw_cX7_chooses_0 6 rfl rfl
theorem dX7_chooses_7 : decode cX7_chooses 7 = .ok (.l2i, 1) := dqr0 dqK_136 dqw_cX7_chooses_0 7 rfl rfl
theorem dX7_chooses_8 : decode cX7_chooses 8 = .ok (.istore_n 2, 1) := dqr0 dqK_61 dqw_cX7_chooses_0 8 rfl rfl
theorem dX7_chooses_9 : decode cX7_chooses 9 = .ok (.aload_n 0, 1) := dqr0 dqK_42 dqw_cX7_chooses_0 9 rfl rfl
theorem dX7_chooses_10 : decode cX7_chooses 10 = .ok (.dup, 1) := dqr0 dqK_89 dqw_cX7_chooses_0 10 rfl rfl
theorem dX7_chooses_11 : decode cX7_chooses 11 = .ok (.getfield 237, 3) := dqr2 dqK_180 dqw_cX7_chooses_0 11 rfl rfl rfl rfl rfl
theorem dX7_chooses_14 : decode cX7_chooses 14 = .ok (.iload_n 1, 1) := dqr0 dqK_27 dqw_cX7_chooses_0 14 rfl rfl
theorem dX7_chooses_15 : decode cX7_chooses 15 = .ok (.i2l, 1) := dqr0 dqK_133 dqw_cX7_chooses_0 15 rfl rfl
theorem dX7_chooses_16 : decode cX7_chooses 16 = .ok (.ldiv, 1) := dqr0 dqK_109 dqw_cX7_chooses_0 16 rfl rfl
theorem dX7_chooses_17 : decode cX7_chooses 17 = .ok (.putfield 237, 3) := dqr2 dqK_181 dqw_cX7_chooses_0 17 rfl rfl rfl rfl rfl
theorem dX7_chooses_20 : decode cX7_chooses 20 = .ok (.iload_n 2, 1) := dqr0 dqK_28 dqw_cX7_chooses_0 20 rfl rfl
theorem dX7_chooses_21 : decode cX7_chooses 21 = .ok (.ireturn, 1) := dqr0 dqK_172 dqw_cX7_chooses_0 21 rfl rfl
theorem dqw_cX7_linesOf_0 : dqLF cX7_linesOf 0 [3, 61, 3, 62, 29, 42, 180, 0, 147, 162, 0, 36, 28, 42, 180, 0, 126, 29, 51, 153, 0, 17, 42] := by decide +kernel
theorem dX7_linesOf_0 : decode cX7_linesOf 0 = .ok (.iconst 0, 1) := dqr0 dqK_3 dqw_cX7_linesOf_0 0 rfl rfl
theorem dX7_linesOf_1 : decode cX7_linesOf 1 = .ok (.istore_n 2, 1) := dqr0 dqK_61 dqw_cX7_linesOf_0 1 rfl rfl
theorem dX7_linesOf_2 : decode cX7_linesOf 2 = .ok (.iconst 0, 1) := dqr0 dqK_3 dqw_cX7_linesOf_0 2 rfl rfl
theorem dX7_linesOf_3 : decode cX7_linesOf 3 = .ok (.istore_n 3, 1) := dqr0 dqK_62 dqw_cX7_linesOf_0 3 rfl rfl
theorem dX7_linesOf_4 : decode cX7_linesOf 4 = .ok (.iload_n 3, 1) := dqr0 dqK_29 dqw_cX7_linesOf_0 4 rfl rfl
theorem dX7_linesOf_5 : decode cX7_linesOf 5 = .ok (.aload_n 0, 1) := dqr0 dqK_42 dqw_cX7_linesOf_0 5 rfl rfl
theorem dX7_linesOf_6 : decode cX7_linesOf 6 = .ok (.getfield 147, 3) := dqr2 dqK_180 dqw_cX7_linesOf_0 6 rfl rfl rfl rfl rfl
theorem dX7_linesOf_9 : decode cX7_linesOf 9 = .ok (.if_icmp .ge 36, 3) := dqrs2 dqK_162 dqw_cX7_linesOf_0 9 rfl rfl rfl rfl (by decide)
theorem dX7_linesOf_12 : decode cX7_linesOf 12 = .ok (.iload_n 2, 1) := dqr0 dqK_28 dqw_cX7_linesOf_0 12 rfl rfl
theorem dX7_linesOf_13 : decode cX7_linesOf 13 = .ok (.aload_n 0, 1) := dqr0 dqK_42 dqw_cX7_linesOf_0 13 rfl rfl
theorem dX7_linesOf_14 : decode cX7_linesOf 14 = .ok (.getfield 126, 3) := dqr2 dqK_180 dqw_cX7_linesOf_0 14 rfl rfl rfl rfl rfl
theorem dX7_linesOf_17 : decode cX7_linesOf 17 = .ok (.iload_n 3, 1) := dqr0 dqK_29 dqw_cX7_linesOf_0 17 rfl rfl
theorem dX7_linesOf_18 : decode cX7_linesOf 18 = .ok (.baload, 1) := dqr0 dqK_51 dqw_cX7_linesOf_0 18 rfl rfl
theorem dX7_linesOf_19 : decode cX7_linesOf 19 = .ok (.ifCond .eq 17, 3) := dqrs2 dqK_153 dqw_cX7_linesOf_0 19 rfl rfl rfl rfl (by decide)
theorem dX7_linesOf_22 : decode cX7_linesOf 22 = .ok (.aload_n 0, 1) := dqr0 dqK_42 dqw_cX7_linesOf_0 22 rfl rfl
theorem dqw_cX7_linesOf_23 : dqLF cX7_linesOf 23 [180, 0, 31, 29, 46, 27, 160, 0, 7, 4, 167, 0, 4, 3, 96, 61, 132, 3, 1, 167, 255, 218, 28, 172] := by decide +kernel
theorem dX7_linesOf_23 : decode cX7_linesOf 23 = .ok (.getfield 31, 3) := dqr2 dqK_180 dqw_cX7_linesOf_23 0 rfl rfl rfl rfl rfl
theorem dX7_linesOf_26 : decode cX7_linesOf 26 = .ok (.iload_n 3, 1) := dqr0 dqK_29 dqw_cX7_linesOf_23 3 rfl rfl
theorem dX7_linesOf_27 : decode cX7_linesOf 27 = .ok (.iaload, 1) := dqr0 dqK_46 dqw_cX7_linesOf_23 4 rfl rfl
theorem dX7_linesOf_28 : decode cX7_linesOf 28 = .ok (.iload_n 1, 1) := dqr0 dqK_27 dqw_cX7_linesOf_23 5 rfl rfl
theorem dX7_linesOf_29 : decode cX7_linesOf 29 = .ok (.if_icmp .ne 7, 3) := dqrs2 dqK_160 dqw_cX7_linesOf_23 6 rfl rfl rfl rfl (by decide)
theorem dX7_linesOf_32 : decode cX7_linesOf 32 = .ok (.iconst 1, 1) := dqr0 dqK_4 dqw_cX7_linesOf_23 9 rfl rfl
theorem dX7_linesOf_33 : decode cX7_linesOf 33 = .ok (.goto 4, 3) := dqrs2 dqK_167 dqw_cX7_linesOf_23 10 rfl rfl rfl rfl (by decide)
theorem dX7_linesOf_36 : decode cX7_linesOf 36 = .ok (.iconst 0, 1) := dqr0 dqK_3 dqw_cX7_linesOf_23 13 rfl rfl
theorem dX7_linesOf_37 : decode cX7_linesOf 37 = .ok (.iadd, 1) := dqr0 dqK_96 dqw_cX7_linesOf_23 14 rfl rfl
theorem dX7_linesOf_38 : decode cX7_linesOf 38 = .ok (.istore_n 2, 1) := dqr0 dqK_61 dqw_cX7_linesOf_23 15 rfl rfl
theorem dX7_linesOf_39 : decode cX7_linesOf 39 = .ok (.iinc 3 1, 3) := dqri dqK_132 dqw_cX7_linesOf_23 16 rfl rfl rfl rfl (by decide)
theorem dX7_linesOf_42 : decode cX7_linesOf 42 = .ok (.goto (-38), 3) := dqrs2 dqK_167 dqw_cX7_linesOf_23 19 rfl rfl rfl rfl (by decide)
theorem dX7_linesOf_45 : decode cX7_linesOf 45 = .ok (.iload_n 2, 1) := dqr0 dqK_28 dqw_cX7_linesOf_23 22 rfl rfl
theorem dX7_linesOf_46 : decode cX7_linesOf 46 = .ok (.ireturn, 1) := dqr0 dqK_172 dqw_cX7_linesOf_23 23 rfl rfl
theorem dqw_cX7_lineOf_0 : dqLF cX7_lineOf 0 [28, 62, 3, 54, 4, 42, 180, 0, 126, 21, 4, 51, 153, 0, 18, 42, 180, 0, 31, 21, 4, 46, 27] := by decide +kernel
theorem dX7_lineOf_0 : decode cX7_lineOf 0 = .ok (.iload_n 2, 1) := dqr0 dqK_28 dqw_cX7_lineOf_0 0 rfl rfl
theorem dX7_lineOf_1 : decode cX7_lineOf 1 = .ok (.istore_n 3, 1) := dqr0 dqK_62 dqw_cX7_lineOf_0 1 rfl rfl
theorem dX7_lineOf_2 : decode cX7_lineOf 2 = .ok (.iconst 0, 1) := dqr0 dqK_3 dqw_cX7_lineOf_0 2 rfl rfl
theorem dX7_lineOf_3 : decode cX7_lineOf 3 = .ok (.istore 4, 2) := dqr1 dqK_54 dqw_cX7_lineOf_0 3 rfl rfl rfl
theorem dX7_lineOf_5 : decode cX7_lineOf 5 = .ok (.aload_n 0, 1) := dqr0 dqK_42 dqw_cX7_lineOf_0 5 rfl rfl
theorem dX7_lineOf_6 : decode cX7_lineOf 6 = .ok (.getfield 126, 3) := dqr2 dqK_180 dqw_cX7_lineOf_0 6 rfl rfl rfl rfl rfl
theorem dX7_lineOf_9 : decode cX7_lineOf 9 = .ok (.iload 4, 2) := dqr1 dqK_21 dqw_cX7_lineOf_0 9 rfl rfl rfl
theorem dX7_lineOf_11 : decode cX7_lineOf 11 = .ok (.baload, 1) := dqr0 dqK_51 dqw_cX7_lineOf_0 11 rfl rfl
theorem dX7_lineOf_12 : decode cX7_lineOf 12 = .ok (.ifCond .eq 18, 3) := dqrs2 dqK_153 dqw_cX7_lineOf_0 12 rfl rfl rfl rfl (by decide)
theorem dX7_lineOf_15 : decode cX7_lineOf 15 = .ok (.aload_n 0, 1) := dqr0 dqK_42 dqw_cX7_lineOf_0 15 rfl rfl
theorem dX7_lineOf_16 : decode cX7_lineOf 16 = .ok (.getfield 31, 3) := dqr2 dqK_180 dqw_cX7_lineOf_0 16 rfl rfl rfl rfl rfl
theorem dX7_lineOf_19 : decode cX7_lineOf 19 = .ok (.iload 4, 2) := dqr1 dqK_21 dqw_cX7_lineOf_0 19 rfl rfl rfl
theorem dX7_lineOf_21 : decode cX7_lineOf 21 = .ok (.iaload, 1) := dqr0 dqK_46 dqw_cX7_lineOf_0 21 rfl rfl
theorem dX7_lineOf_22 : decode cX7_lineOf 22 = .ok (.iload_n 1, 1) := dqr0 dqK_27 dqw_cX7_lineOf_0 22 rfl rfl
theorem dqw_cX7_lineOf_23 : dqLF cX7_lineOf 23 [160, 0, 7, 29, 158, 0, 38, 29, 42, 180, 0, 126, 21, 4, 51, 153, 0, 18, 42, 180, 0, 31, 21, 4] := by decide +kernel
theorem dX7_lineOf_23 : decode cX7_lineOf 23 = .ok (.if_icmp .ne 7, 3) := dqrs2 dqK_160 dqw_cX7_lineOf_23 0 rfl rfl rfl rfl (by decide)
theorem dX7_lineOf_26 : decode cX7_lineOf 26 = .ok (.iload_n 3, 1) := dqr0 dqK_29 dqw_cX7_lineOf_23 3 rfl rfl
theorem dX7_lineOf_27 : decode cX7_lineOf 27 = .ok (.ifCond .le 38, 3) := dqrs2 dqK_158 dqw_cX7_lineOf_23 4 rfl rfl rfl rfl (by decide)
theorem dX7_lineOf_30 : decode cX7_lineOf 30 = .ok (.iload_n 3, 1) := dqr0 dqK_29 dqw_cX7_lineOf_23 7 rfl rfl
theorem dX7_lineOf_31 : decode cX7_lineOf 31 = .ok (.aload_n 0, 1) := dqr0 dqK_42 dqw_cX7_lineOf_23 8 rfl rfl
theorem dX7_lineOf_32 : decode cX7_lineOf 32 = .ok (.getfield 126, 3) := dqr2 dqK_180 dqw_cX7_lineOf_23 9 rfl rfl rfl rfl rfl
theorem dX7_lineOf_35 : decode cX7_lineOf 35 = .ok (.iload 4, 2) := dqr1 dqK_21 dqw_cX7_lineOf_23 12 rfl rfl rfl
theorem dX7_lineOf_37 : decode cX7_lineOf 37 = .ok (.baload, 1) := dqr0 dqK_51 dqw_cX7_lineOf_23 14 rfl rfl
theorem dX7_lineOf_38 : decode cX7_lineOf 38 = .ok (.ifCond .eq 18, 3) := dqrs2 dqK_153 dqw_cX7_lineOf_23 15 rfl rfl rfl rfl (by decide)
theorem dX7_lineOf_41 : decode cX7_lineOf 41 = .ok (.aload_n 0, 1) := dqr0 dqK_42 dqw_cX7_lineOf_23 18 rfl rfl
theorem dX7_lineOf_42 : decode cX7_lineOf 42 = .ok (.getfield 31, 3) := dqr2 dqK_180 dqw_cX7_lineOf_23 19 rfl rfl rfl rfl rfl
theorem dX7_lineOf_45 : decode cX7_lineOf 45 = .ok (.iload 4, 2) := dqr1 dqK_21 dqw_cX7_lineOf_23 22 rfl rfl rfl
theorem dqw_cX7_lineOf_47 : dqLF cX7_lineOf 47 [46, 27, 160, 0, 7, 4, 167, 0, 4, 3, 100, 62, 132, 4, 1, 167, 255, 199, 21, 4, 172] := by decide +kernel
theorem dX7_lineOf_47 : decode cX7_lineOf 47 = .ok (.iaload, 1) := dqr0 dqK_46 dqw_cX7_lineOf_47 0 rfl rfl
theorem dX7_lineOf_48 : decode cX7_lineOf 48 = .ok (.iload_n 1, 1) := dqr0 dqK_27 dqw_cX7_lineOf_47 1 rfl rfl
theorem dX7_lineOf_49 : decode cX7_lineOf 49 = .ok (.if_icmp .ne 7, 3) := dqrs2 dqK_160 dqw_cX7_lineOf_47 2 rfl rfl rfl rfl (by decide)
theorem dX7_lineOf_52 : decode cX7_lineOf 52 = .ok (.iconst 1, 1) := dqr0 dqK_4 dqw_cX7_lineOf_47 5 rfl rfl
theorem dX7_lineOf_53 : decode cX7_lineOf 53 = .ok (.goto 4, 3) := dqrs2 dqK_167 dqw_cX7_lineOf_47 6 rfl rfl rfl rfl (by decide)
theorem dX7_lineOf_56 : decode cX7_lineOf 56 = .ok (.iconst 0, 1) := dqr0 dqK_3 dqw_cX7_lineOf_47 9 rfl rfl
theorem dX7_lineOf_57 : decode cX7_lineOf 57 = .ok (.isub, 1) := dqr0 dqK_100 dqw_cX7_lineOf_47 10 rfl rfl
theorem dX7_lineOf_58 : decode cX7_lineOf 58 = .ok (.istore_n 3, 1) := dqr0 dqK_62 dqw_cX7_lineOf_47 11 rfl rfl
theorem dX7_lineOf_59 : decode cX7_lineOf 59 = .ok (.iinc 4 1, 3) := dqri dqK_132 dqw_cX7_lineOf_47 12 rfl rfl rfl rfl (by decide)
theorem dX7_lineOf_62 : decode cX7_lineOf 62 = .ok (.goto (-57), 3) := dqrs2 dqK_167 dqw_cX7_lineOf_47 15 rfl rfl rfl rfl (by decide)
theorem dX7_lineOf_65 : decode cX7_lineOf 65 = .ok (.iload 4, 2) := dqr1 dqK_21 dqw_cX7_lineOf_47 18 rfl rfl rfl
theorem dX7_lineOf_67 : decode cX7_lineOf 67 = .ok (.ireturn, 1) := dqr0 dqK_172 dqw_cX7_lineOf_47 20 rfl rfl
theorem dqw_cX7_sings_0 : dqLF cX7_sings 0 [3, 61, 3, 62, 3, 54, 4, 42, 180, 0, 65, 3, 27, 79, 42, 180, 0, 68, 3, 3, 79, 42, 3] := by decide +kernel
theorem dX7_sings_0 : decode cX7_sings 0 = .ok (.iconst 0, 1) := dqr0 dqK_3 dqw_cX7_sings_0 0 rfl rfl
theorem dX7_sings_1 : decode cX7_sings 1 = .ok (.istore_n 2, 1) := dqr0 dqK_61 dqw_cX7_sings_0 1 rfl rfl
theorem dX7_sings_2 : decode cX7_sings 2 = .ok (.iconst 0, 1) := dqr0 dqK_3 dqw_cX7_sings_0 2 rfl rfl
theorem dX7_sings_3 : decode cX7_sings 3 = .ok (.istore_n 3, 1) := dqr0 dqK_62 dqw_cX7_sings_0 3 rfl rfl
theorem dX7_sings_4 : decode cX7_sings 4 = .ok (.iconst 0, 1) := dqr0 dqK_3 dqw_cX7_sings_0 4 rfl rfl
theorem dX7_sings_5 : decode cX7_sings 5 = .ok (.istore 4, 2) := dqr1 dqK_54 dqw_cX7_sings_0 5 rfl rfl rfl
theorem dX7_sings_7 : decode cX7_sings 7 = .ok (.aload_n 0, 1) := dqr0 dqK_42 dqw_cX7_sings_0 7 rfl rfl
theorem dX7_sings_8 : decode cX7_sings 8 = .ok (.getfield 65, 3) := dqr2 dqK_180 dqw_cX7_sings_0 8 rfl rfl rfl rfl rfl
theorem dX7_sings_11 : decode cX7_sings 11 = .ok (.iconst 0, 1) := dqr0 dqK_3 dqw_cX7_sings_0 11 rfl rfl
theorem dX7_sings_12 : decode cX7_sings 12 = .ok (.iload_n 1, 1) := dqr0 dqK_27 dqw_cX7_sings_0 12 rfl rfl
theorem dX7_sings_13 : decode cX7_sings 13 = .ok (.iastore, 1) := dqr0 dqK_79 dqw_cX7_sings_0 13 rfl rfl
theorem dX7_sings_14 : decode cX7_sings 14 = .ok (.aload_n 0, 1) := dqr0 dqK_42 dqw_cX7_sings_0 14 rfl rfl
theorem dX7_sings_15 : decode cX7_sings 15 = .ok (.getfield 68, 3) := dqr2 dqK_180 dqw_cX7_sings_0 15 rfl rfl rfl rfl rfl
theorem dX7_sings_18 : decode cX7_sings 18 = .ok (.iconst 0, 1) := dqr0 dqK_3 dqw_cX7_sings_0 18 rfl rfl
theorem dX7_sings_19 : decode cX7_sings 19 = .ok (.iconst 0, 1) := dqr0 dqK_3 dqw_cX7_sings_0 19 rfl rfl
theorem dX7_sings_20 : decode cX7_sings 20 = .ok (.iastore, 1) := dqr0 dqK_79 dqw_cX7_sings_0 20 rfl rfl
theorem dX7_sings_21 : decode cX7_sings 21 = .ok (.aload_n 0, 1) := dqr0 dqK_42 dqw_cX7_sings_0 21 rfl rfl
theorem dX7_sings_22 : decode cX7_sings 22 = .ok (.iconst 0, 1) := dqr0 dqK_3 dqw_cX7_sings_0 22 rfl rfl
theorem dqw_cX7_sings_23 : dqLF cX7_sings 23 [181, 0, 241, 28, 155, 1, 151, 42, 180, 0, 65, 28, 46, 54, 5, 42, 180, 0, 68, 28, 46, 54, 6] := by decide +kernel
theorem dX7_sings_23 : decode cX7_sings 23 = .ok (.putfield 241, 3) := dqr2 dqK_181 dqw_cX7_sings_23 0 rfl rfl rfl rfl rfl
theorem dX7_sings_26 : decode cX7_sings 26 = .ok (.iload_n 2, 1) := dqr0 dqK_28 dqw_cX7_sings_23 3 rfl rfl
theorem dX7_sings_27 : decode cX7_sings 27 = .ok (.ifCond .lt 407, 3) := dqrs2 dqK_155 dqw_cX7_sings_23 4 rfl rfl rfl rfl (by decide)
theorem dX7_sings_30 : decode cX7_sings 30 = .ok (.aload_n 0, 1) := dqr0 dqK_42 dqw_cX7_sings_23 7 rfl rfl
theorem dX7_sings_31 : decode cX7_sings 31 = .ok (.getfield 65, 3) := dqr2 dqK_180 dqw_cX7_sings_23 8 rfl rfl rfl rfl rfl
theorem dX7_sings_34 : decode cX7_sings 34 = .ok (.iload_n 2, 1) := dqr0 dqK_28 dqw_cX7_sings_23 11 rfl rfl
theorem dX7_sings_35 : decode cX7_sings 35 = .ok (.iaload, 1) := dqr0 dqK_46 dqw_cX7_sings_23 12 rfl rfl
theorem dX7_sings_36 : decode cX7_sings 36 = .ok (.istore 5, 2) := dqr1 dqK_54 dqw_cX7_sings_23 13 rfl rfl rfl
theorem dX7_sings_38 : decode cX7_sings 38 = .ok (.aload_n 0, 1) := dqr0 dqK_42 dqw_cX7_sings_23 15 rfl rfl
theorem dX7_sings_39 : decode cX7_sings 39 = .ok (.getfield 68, 3) := dqr2 dqK_180 dqw_cX7_sings_23 16 rfl rfl rfl rfl rfl
theorem dX7_sings_42 : decode cX7_sings 42 = .ok (.iload_n 2, 1) := dqr0 dqK_28 dqw_cX7_sings_23 19 rfl rfl
theorem dX7_sings_43 : decode cX7_sings 43 = .ok (.iaload, 1) := dqr0 dqK_46 dqw_cX7_sings_23 20 rfl rfl
theorem dX7_sings_44 : decode cX7_sings 44 = .ok (.istore 6, 2) := dqr1 dqK_54 dqw_cX7_sings_23 21 rfl rfl rfl
theorem dqw_cX7_sings_46 : dqLF cX7_sings 46 [21, 6, 42, 180, 0, 52, 21, 5, 46, 160, 0, 9, 132, 2, 255, 167, 255, 221, 42, 180, 0, 49, 16, 60] := by decide +kernel
theorem dX7_sings_46 : decode cX7_sings 46 = .ok (.iload 6, 2) := dqr1 dqK_21 dqw_cX7_sings_46 0 rfl rfl rfl
theorem dX7_sings_48 : decode cX7_sings 48 = .ok (.aload_n 0, 1) := dqr0 dqK_42 dqw_cX7_sings_46 2 rfl rfl
theorem dX7_sings_49 : decode cX7_sings 49 = .ok (.getfield 52, 3) := dqr2 dqK_180 dqw_cX7_sings_46 3 rfl rfl rfl rfl rfl
theorem dX7_sings_52 : decode cX7_sings 52 = .ok (.iload 5, 2) := dqr1 dqK_21 dqw_cX7_sings_46 6 rfl rfl rfl
theorem dX7_sings_54 : decode cX7_sings 54 = .ok (.iaload, 1) := dqr0 dqK_46 dqw_cX7_sings_46 8 rfl rfl
theorem dX7_sings_55 : decode cX7_sings 55 = .ok (.if_icmp .ne 9, 3) := dqrs2 dqK_160 dqw_cX7_sings_46 9 rfl rfl rfl rfl (by decide)
theorem dX7_sings_58 : decode cX7_sings 58 = .ok (.iinc 2 (-1), 3) := dqri dqK_132 dqw_cX7_sings_46 12 rfl rfl rfl rfl (by decide)
theorem dX7_sings_61 : decode cX7_sings 61 = .ok (.goto (-35), 3) := dqrs2 dqK_167 dqw_cX7_sings_46 15 rfl rfl rfl rfl (by decide)
theorem dX7_sings_64 : decode cX7_sings 64 = .ok (.aload_n 0, 1) := dqr0 dqK_42 dqw_cX7_sings_46 18 rfl rfl
theorem dX7_sings_65 : decode cX7_sings 65 = .ok (.getfield 49, 3) := dqr2 dqK_180 dqw_cX7_sings_46 19 rfl rfl rfl rfl rfl
theorem dX7_sings_68 : decode cX7_sings 68 = .ok (.bipush 60, 2) := dqrs1 dqK_16 dqw_cX7_sings_46 22 rfl rfl rfl (by decide)
theorem dqw_cX7_sings_70 : dqLF cX7_sings 70 [21, 5, 104, 21, 6, 96, 46, 54, 7, 42, 180, 0, 68, 28, 92, 46, 4, 96, 79, 21, 7, 16, 93] := by decide +kernel
theorem dX7_sings_70 : decode cX7_sings 70 = .ok (.iload 5, 2) := dqr1 dqK_21 dqw_cX7_sings_70 0 rfl rfl rfl
theorem dX7_sings_72 : decode cX7_sings 72 = .ok (.imul, 1) := dqr0 dqK_104 dqw_cX7_sings_70 2 rfl rfl
theorem dX7_sings_73 : decode cX7_sings 73 = .ok (.iload 6, 2) := dqr1 dqK_21 dqw_cX7_sings_70 3 rfl rfl rfl
theorem dX7_sings_75 : decode cX7_sings 75 = .ok (.iadd, 1) := dqr0 dqK_96 dqw_cX7_sings_70 5 rfl rfl
theorem dX7_sings_76 : decode cX7_sings 76 = .ok (.iaload, 1) := dqr0 dqK_46 dqw_cX7_sings_70 6 rfl rfl
theorem dX7_sings_77 : decode cX7_sings 77 = .ok (.istore 7, 2) := dqr1 dqK_54 dqw_cX7_sings_70 7 rfl rfl rfl
theorem dX7_sings_79 : decode cX7_sings 79 = .ok (.aload_n 0, 1) := dqr0 dqK_42 dqw_cX7_sings_70 9 rfl rfl
theorem dX7_sings_80 : decode cX7_sings 80 = .ok (.getfield 68, 3) := dqr2 dqK_180 dqw_cX7_sings_70 10 rfl rfl rfl rfl rfl
theorem dX7_sings_83 : decode cX7_sings 83 = .ok (.iload_n 2, 1) := dqr0 dqK_28 dqw_cX7_sings_70 13 rfl rfl
theorem dX7_sings_84 : decode cX7_sings 84 = .ok (.dup2, 1) := dqr0 dqK_92 dqw_cX7_sings_70 14 rfl rfl
theorem dX7_sings_85 : decode cX7_sings 85 = .ok (.iaload, 1) := dqr0 dqK_46 dqw_cX7_sings_70 15 rfl rfl
theorem dX7_sings_86 : decode cX7_sings 86 = .ok (.iconst 1, 1) := dqr0 dqK_4 dqw_cX7_sings_70 16 rfl rfl
theorem dX7_sings_87 : decode cX7_sings 87 = .ok (.iadd, 1) := dqr0 dqK_96 dqw_cX7_sings_70 17 rfl rfl
theorem dX7_sings_88 : decode cX7_sings 88 = .ok (.iastore, 1) := dqr0 dqK_79 dqw_cX7_sings_70 18 rfl rfl
theorem dX7_sings_89 : decode cX7_sings 89 = .ok (.iload 7, 2) := dqr1 dqK_21 dqw_cX7_sings_70 19 rfl rfl rfl
theorem dX7_sings_91 : decode cX7_sings 91 = .ok (.bipush 93, 2) := dqrs1 dqK_16 dqw_cX7_sings_70 21 rfl rfl rfl (by decide)
theorem dqw_cX7_sings_93 : dqLF cX7_sings 93 [159, 255, 189, 21, 7, 16, 41, 160, 0, 6, 167, 255, 179, 21, 7, 16, 124, 160, 0, 22, 42, 180, 0, 68] := by decide +kernel
theorem dX7_sings_93 : decode cX7_sings 93 = .ok (.if_icmp .eq (-67), 3) := dqrs2 dqK_159 dqw_cX7_sings_93 0 rfl rfl rfl rfl (by decide)
theorem dX7_sings_96 : decode cX7_sings 96 = .ok (.iload 7, 2) := dqr1 dqK_21 dqw_cX7_sings_93 3 rfl rfl rfl
theorem dX7_sings_98 : decode cX7_sings 98 = .ok (.bipush 41, 2) := dqrs1 dqK_16 dqw_cX7_sings_93 5 rfl rfl rfl (by decide)
theorem dX7_sings_100 : decode cX7_sings 100 = .ok (.if_icmp .ne 6, 3) := dqrs2 dqK_160 dqw_cX7_sings_93 7 rfl rfl rfl rfl (by decide)
theorem dX7_sings_103 : decode cX7_sings 103 = .ok (.goto (-77), 3) := dqrs2 dqK_167 dqw_cX7_sings_93 10 rfl rfl rfl rfl (by decide)
theorem dX7_sings_106 : decode cX7_sings 106 = .ok (.iload 7, 2) := dqr1 dqK_21 dqw_cX7_sings_93 13 rfl rfl rfl
theorem dX7_sings_108 : decode cX7_sings 108 = .ok (.bipush 124, 2) := dqrs1 dqK_16 dqw_cX7_sings_93 15 rfl rfl rfl (by decide)
theorem dX7_sings_110 : decode cX7_sings 110 = .ok (.if_icmp .ne 22, 3) := dqrs2 dqK_160 dqw_cX7_sings_93 17 rfl rfl rfl rfl (by decide)
theorem dX7_sings_113 : decode cX7_sings 113 = .ok (.aload_n 0, 1) := dqr0 dqK_42 dqw_cX7_sings_93 20 rfl rfl
theorem dX7_sings_114 : decode cX7_sings 114 = .ok (.getfield 68, 3) := dqr2 dqK_180 dqw_cX7_sings_93 21 rfl rfl rfl rfl rfl
theorem dqw_cX7_sings_117 : dqLF cX7_sings 117 [28, 42, 21, 5, 21, 6, 182, 0, 244, 4, 96, 79, 167, 255, 153, 21, 7, 16, 125, 160, 0, 52, 42] := by decide +kernel
theorem dX7_sings_117 : decode cX7_sings 117 = .ok (.iload_n 2, 1) := dqr0 dqK_28 dqw_cX7_sings_117 0 rfl rfl
theorem dX7_sings_118 : decode cX7_sings 118 = .ok (.aload_n 0, 1) := dqr0 dqK_42 dqw_cX7_sings_117 1 rfl rfl
theorem dX7_sings_119 : decode cX7_sings 119 = .ok (.iload 5, 2) := dqr1 dqK_21 dqw_cX7_sings_117 2 rfl rfl rfl
theorem dX7_sings_121 : decode cX7_sings 121 = .ok (.iload 6, 2) := dqr1 dqK_21 dqw_cX7_sings_117 4 rfl rfl rfl
theorem dX7_sings_123 : decode cX7_sings 123 = .ok (.invokevirtual 244, 3) := dqr2 dqK_182 dqw_cX7_sings_117 6 rfl rfl rfl rfl rfl
theorem dX7_sings_126 : decode cX7_sings 126 = .ok (.iconst 1, 1) := dqr0 dqK_4 dqw_cX7_sings_117 9 rfl rfl
theorem dX7_sings_127 : decode cX7_sings 127 = .ok (.iadd, 1) := dqr0 dqK_96 dqw_cX7_sings_117 10 rfl rfl
theorem dX7_sings_128 : decode cX7_sings 128 = .ok (.iastore, 1) := dqr0 dqK_79 dqw_cX7_sings_117 11 rfl rfl
theorem dX7_sings_129 : decode cX7_sings 129 = .ok (.goto (-103), 3) := dqrs2 dqK_167 dqw_cX7_sings_117 12 rfl rfl rfl rfl (by decide)
theorem dX7_sings_132 : decode cX7_sings 132 = .ok (.iload 7, 2) := dqr1 dqK_21 dqw_cX7_sings_117 15 rfl rfl rfl
theorem dX7_sings_134 : decode cX7_sings 134 = .ok (.bipush 125, 2) := dqrs1 dqK_16 dqw_cX7_sings_117 17 rfl rfl rfl (by decide)
theorem dX7_sings_136 : decode cX7_sings 136 = .ok (.if_icmp .ne 52, 3) := dqrs2 dqK_160 dqw_cX7_sings_117 19 rfl rfl rfl rfl (by decide)
theorem dX7_sings_139 : decode cX7_sings 139 = .ok (.aload_n 0, 1) := dqr0 dqK_42 dqw_cX7_sings_117 22 rfl rfl
theorem dqw_cX7_sings_140 : dqLF cX7_sings 140 [180, 0, 71, 21, 4, 4, 100, 92, 46, 4, 100, 79, 42, 180, 0, 71, 21, 4, 4, 100, 46, 158, 0, 21] := by decide +kernel
theorem dX7_sings_140 : decode cX7_sings 140 = .ok (.getfield 71, 3) := dqr2 dqK_180 dqw_cX7_sings_140 0 rfl rfl rfl rfl rfl
theorem dX7_sings_143 : decode cX7_sings 143 = .ok (.iload 4, 2) := dqr1 dqK_21 dqw_cX7_sings_140 3 rfl rfl rfl
theorem dX7_sings_145 : decode cX7_sings 145 = .ok (.iconst 1, 1) := dqr0 dqK_4 dqw_cX7_sings_140 5 rfl rfl
theorem dX7_sings_146 : decode cX7_sings 146 = .ok (.isub, 1) := dqr0 dqK_100 dqw_cX7_sings_140 6 rfl rfl
theorem dX7_sings_147 : decode cX7_sings 147 = .ok (.dup2, 1) := dqr0 dqK_92 dqw_cX7_sings_140 7 rfl rfl
theorem dX7_sings_148 : decode cX7_sings 148 = .ok (.iaload, 1) := dqr0 dqK_46 dqw_cX7_sings_140 8 rfl rfl
theorem dX7_sings_149 : decode cX7_sings 149 = .ok (.iconst 1, 1) := dqr0 dqK_4 dqw_cX7_sings_140 9 rfl rfl
theorem dX7_sings_150 : decode cX7_sings 150 = .ok (.isub, 1) := dqr0 dqK_100 dqw_cX7_sings_140 10 rfl rfl
theorem dX7_sings_151 : decode cX7_sings 151 = .ok (.iastore, 1) := dqr0 dqK_79 dqw_cX7_sings_140 11 rfl rfl
theorem dX7_sings_152 : decode cX7_sings 152 = .ok (.aload_n 0, 1) := dqr0 dqK_42 dqw_cX7_sings_140 12 rfl rfl
theorem dX7_sings_153 : decode cX7_sings 153 = .ok (.getfield 71, 3) := dqr2 dqK_180 dqw_cX7_sings_140 13 rfl rfl rfl rfl rfl
theorem dX7_sings_156 : decode cX7_sings 156 = .ok (.iload 4, 2) := dqr1 dqK_21 dqw_cX7_sings_140 16 rfl rfl rfl
theorem dX7_sings_158 : decode cX7_sings 158 = .ok (.iconst 1, 1) := dqr0 dqK_4 dqw_cX7_sings_140 18 rfl rfl
theorem dX7_sings_159 : decode cX7_sings 159 = .ok (.isub, 1) := dqr0 dqK_100 dqw_cX7_sings_140 19 rfl rfl
theorem dX7_sings_160 : decode cX7_sings 160 = .ok (.iaload, 1) := dqr0 dqK_46 dqw_cX7_sings_140 20 rfl rfl
theorem dX7_sings_161 : decode cX7_sings 161 = .ok (.ifCond .le 21, 3) := dqrs2 dqK_158 dqw_cX7_sings_140 21 rfl rfl rfl rfl (by decide)
theorem dqw_cX7_sings_164 : dqLF cX7_sings 164 [42, 180, 0, 68, 28, 42, 180, 0, 74, 21, 4, 4, 100, 46, 79, 167, 255, 103, 132, 4, 255, 167, 255, 97] := by decide +kernel
theorem dX7_sings_164 : decode cX7_sings 164 = .ok (.aload_n 0, 1) := dqr0 dqK_42 dqw_cX7_sings_164 0 rfl rfl
theorem dX7_sings_165 : decode cX7_sings 165 = .ok (.getfield 68, 3) := dqr2 dqK_180 dqw_cX7_sings_164 1 rfl rfl rfl rfl rfl
theorem dX7_sings_168 : decode cX7_sings 168 = .ok (.iload_n 2, 1) := dqr0 dqK_28 dqw_cX7_sings_164 4 rfl rfl
theorem dX7_sings_169 : decode cX7_sings 169 = .ok (.aload_n 0, 1) := dqr0 dqK_42 dqw_cX7_sings_164 5 rfl rfl
theorem dX7_sings_170 : decode cX7_sings 170 = .ok (.getfield 74, 3) := dqr2 dqK_180 dqw_cX7_sings_164 6 rfl rfl rfl rfl rfl
theorem dX7_sings_173 : decode cX7_sings 173 = .ok (.iload 4, 2) := dqr1 dqK_21 dqw_cX7_sings_164 9 rfl rfl rfl
theorem dX7_sings_175 : decode cX7_sings 175 = .ok (.iconst 1, 1) := dqr0 dqK_4 dqw_cX7_sings_164 11 rfl rfl
theorem dX7_sings_176 : decode cX7_sings 176 = .ok (.isub, 1) := dqr0 dqK_100 dqw_cX7_sings_164 12 rfl rfl
theorem dX7_sings_177 : decode cX7_sings 177 = .ok (.iaload, 1) := dqr0 dqK_46 dqw_cX7_sings_164 13 rfl rfl
theorem dX7_sings_178 : decode cX7_sings 178 = .ok (.iastore, 1) := dqr0 dqK_79 dqw_cX7_sings_164 14 rfl rfl
theorem dX7_sings_179 : decode cX7_sings 179 = .ok (.goto (-153), 3) := dqrs2 dqK_167 dqw_cX7_sings_164 15 rfl rfl rfl rfl (by decide)
theorem dX7_sings_182 : decode cX7_sings 182 = .ok (.iinc 4 (-1), 3) := dqri dqK_132 dqw_cX7_sings_164 18 rfl rfl rfl rfl (by decide)
theorem dX7_sings_185 : decode cX7_sings 185 = .ok (.goto (-159), 3) := dqrs2 dqK_167 dqw_cX7_sings_164 21 rfl rfl rfl rfl (by decide)
theorem dqw_cX7_sings_188 : dqLF cX7_sings 188 [132, 3, 1, 29, 17, 7, 208, 164, 0, 5, 3, 172, 21, 7, 16, 91, 160, 0, 30, 42, 5, 182, 0, 247] := by decide +kernel
theorem dX7_sings_188 : decode cX7_sings 188 = .ok (.iinc 3 1, 3) := dqri dqK_132 dqw_cX7_sings_188 0 rfl rfl rfl rfl (by decide)
theorem dX7_sings_191 : decode cX7_sings 191 = .ok (.iload_n 3, 1) := dqr0 dqK_29 dqw_cX7_sings_188 3 rfl rfl
theorem dX7_sings_192 : decode cX7_sings 192 = .ok (.sipush 2000, 3) := dqrs2 dqK_17 dqw_cX7_sings_188 4 rfl rfl rfl rfl (by decide)
theorem dX7_sings_195 : decode cX7_sings 195 = .ok (.if_icmp .le 5, 3) := dqrs2 dqK_164 dqw_cX7_sings_188 7 rfl rfl rfl rfl (by decide)
theorem dX7_sings_198 : decode cX7_sings 198 = .ok (.iconst 0, 1) := dqr0 dqK_3 dqw_cX7_sings_188 10 rfl rfl
theorem dX7_sings_199 : decode cX7_sings 199 = .ok (.ireturn, 1) := dqr0 dqK_172 dqw_cX7_sings_188 11 rfl rfl
theorem dX7_sings_200 : decode cX7_sings 200 = .ok (.iload 7, 2) := dqr1 dqK_21 dqw_cX7_sings_188 12 rfl rfl rfl
theorem dX7_sings_202 : decode cX7_sings 202 = .ok (.bipush 91, 2) := dqrs1 dqK_16 dqw_cX7_sings_188 14 rfl rfl rfl (by decide)
theorem dX7_sings_204 : decode cX7_sings 204 = .ok (.if_icmp .ne 30, 3) := dqrs2 dqK_160 dqw_cX7_sings_188 16 rfl rfl rfl rfl (by decide)
theorem dX7_sings_207 : decode cX7_sings 207 = .ok (.aload_n 0, 1) := dqr0 dqK_42 dqw_cX7_sings_188 19 rfl rfl
theorem dX7_sings_208 : decode cX7_sings 208 = .ok (.iconst 2, 1) := dqr0 dqK_5 dqw_cX7_sings_188 20 rfl rfl
theorem dX7_sings_209 : decode cX7_sings 209 = .ok (.invokevirtual 247, 3) := dqr2 dqK_182 dqw_cX7_sings_188 21 rfl rfl rfl rfl rfl
theorem dqw_cX7_sings_212 : dqLF cX7_sings 212 [154, 0, 219, 42, 180, 0, 68, 28, 42, 21, 5, 21, 6, 182, 0, 251, 4, 96, 79, 167, 0, 200, 21, 7] := by decide +kernel
theorem dX7_sings_212 : decode cX7_sings 212 = .ok (.ifCond .ne 219, 3) := dqrs2 dqK_154 dqw_cX7_sings_212 0 rfl rfl rfl rfl (by decide)
theorem dX7_sings_215 : decode cX7_sings 215 = .ok (.aload_n 0, 1) := dqr0 dqK_42 dqw_cX7_sings_212 3 rfl rfl
theorem dX7_sings_216 : decode cX7_sings 216 = .ok (.getfield 68, 3) := dqr2 dqK_180 dqw_cX7_sings_212 4 rfl rfl rfl rfl rfl
theorem dX7_sings_219 : decode cX7_sings 219 = .ok (.iload_n 2, 1) := dqr0 dqK_28 dqw_cX7_sings_212 7 rfl rfl
theorem dX7_sings_220 : decode cX7_sings 220 = .ok (.aload_n 0, 1) := dqr0 dqK_42 dqw_cX7_sings_212 8 rfl rfl
theorem dX7_sings_221 : decode cX7_sings 221 = .ok (.iload 5, 2) := dqr1 dqK_21 dqw_cX7_sings_212 9 rfl rfl rfl
theorem dX7_sings_223 : decode cX7_sings 223 = .ok (.iload 6, 2) := dqr1 dqK_21 dqw_cX7_sings_212 11 rfl rfl rfl
theorem dX7_sings_225 : decode cX7_sings 225 = .ok (.invokevirtual 251, 3) := dqr2 dqK_182 dqw_cX7_sings_212 13 rfl rfl rfl rfl rfl
theorem dX7_sings_228 : decode cX7_sings 228 = .ok (.iconst 1, 1) := dqr0 dqK_4 dqw_cX7_sings_212 16 rfl rfl
theorem dX7_sings_229 : decode cX7_sings 229 = .ok (.iadd, 1) := dqr0 dqK_96 dqw_cX7_sings_212 17 rfl rfl
theorem dX7_sings_230 : decode cX7_sings 230 = .ok (.iastore, 1) := dqr0 dqK_79 dqw_cX7_sings_212 18 rfl rfl
theorem dX7_sings_231 : decode cX7_sings 231 = .ok (.goto 200, 3) := dqrs2 dqK_167 dqw_cX7_sings_212 19 rfl rfl rfl rfl (by decide)
theorem dX7_sings_234 : decode cX7_sings 234 = .ok (.iload 7, 2) := dqr1 dqK_21 dqw_cX7_sings_212 22 rfl rfl rfl
theorem dqw_cX7_sings_236 : dqLF cX7_sings 236 [16, 40, 160, 0, 31, 42, 5, 182, 0, 247, 4, 160, 0, 184, 42, 180, 0, 68, 28, 42, 21, 5, 21, 6] := by decide +kernel
theorem dX7_sings_236 : decode cX7_sings 236 = .ok (.bipush 40, 2) := dqrs1 dqK_16 dqw_cX7_sings_236 0 rfl rfl rfl (by decide)
theorem dX7_sings_238 : decode cX7_sings 238 = .ok (.if_icmp .ne 31, 3) := dqrs2 dqK_160 dqw_cX7_sings_236 2 rfl rfl rfl rfl (by decide)
theorem dX7_sings_241 : decode cX7_sings 241 = .ok (.aload_n 0, 1) := dqr0 dqK_42 dqw_cX7_sings_236 5 rfl rfl
theorem dX7_sings_242 : decode cX7_sings 242 = .ok (.iconst 2, 1) := dqr0 dqK_5 dqw_cX7_sings_236 6 rfl rfl
theorem dX7_sings_243 : decode cX7_sings 243 = .ok (.invokevirtual 247, 3) := dqr2 dqK_182 dqw_cX7_sings_236 7 rfl rfl rfl rfl rfl
theorem dX7_sings_246 : decode cX7_sings 246 = .ok (.iconst 1, 1) := dqr0 dqK_4 dqw_cX7_sings_236 10 rfl rfl
theorem dX7_sings_247 : decode cX7_sings 247 = .ok (.if_icmp .ne 184, 3) := dqrs2 dqK_160 dqw_cX7_sings_236 11 rfl rfl rfl rfl (by decide)
theorem dX7_sings_250 : decode cX7_sings 250 = .ok (.aload_n 0, 1) := dqr0 dqK_42 dqw_cX7_sings_236 14 rfl rfl
theorem dX7_sings_251 : decode cX7_sings 251 = .ok (.getfield 68, 3) := dqr2 dqK_180 dqw_cX7_sings_236 15 rfl rfl rfl rfl rfl
theorem dX7_sings_254 : decode cX7_sings 254 = .ok (.iload_n 2, 1) := dqr0 dqK_28 dqw_cX7_sings_236 18 rfl rfl
theorem dX7_sings_255 : decode cX7_sings 255 = .ok (.aload_n 0, 1) := dqr0 dqK_42 dqw_cX7_sings_236 19 rfl rfl
theorem dX7_sings_256 : decode cX7_sings 256 = .ok (.iload 5, 2) := dqr1 dqK_21 dqw_cX7_sings_236 20 rfl rfl rfl
theorem dX7_sings_258 : decode cX7_sings 258 = .ok (.iload 6, 2) := dqr1 dqK_21 dqw_cX7_sings_236 22 rfl rfl rfl
theorem dqw_cX7_sings_260 : dqLF cX7_sings 260 [182, 0, 251, 4, 96, 79, 167, 0, 165, 21, 7, 16, 123, 160, 0, 65, 42, 42, 180, 0, 61, 4, 96] := by decide +kernel
theorem dX7_sings_260 : decode cX7_sings 260 = .ok (.invokevirtual 251, 3) := dqr2 dqK_182 dqw_cX7_sings_260 0 rfl rfl rfl rfl rfl
theorem dX7_sings_263 : decode cX7_sings 263 = .ok (.iconst 1, 1) := dqr0 dqK_4 dqw_cX7_sings_260 3 rfl rfl
theorem dX7_sings_264 : decode cX7_sings 264 = .ok (.iadd, 1) := dqr0 dqK_96 dqw_cX7_sings_260 4 rfl rfl
theorem dX7_sings_265 : decode cX7_sings 265 = .ok (.iastore, 1) := dqr0 dqK_79 dqw_cX7_sings_260 5 rfl rfl
theorem dX7_sings_266 : decode cX7_sings 266 = .ok (.goto 165, 3) := dqrs2 dqK_167 dqw_cX7_sings_260 6 rfl rfl rfl rfl (by decide)
theorem dX7_sings_269 : decode cX7_sings 269 = .ok (.iload 7, 2) := dqr1 dqK_21 dqw_cX7_sings_260 9 rfl rfl rfl
theorem dX7_sings_271 : decode cX7_sings 271 = .ok (.bipush 123, 2) := dqrs1 dqK_16 dqw_cX7_sings_260 11 rfl rfl rfl (by decide)
theorem dX7_sings_273 : decode cX7_sings 273 = .ok (.if_icmp .ne 65, 3) := dqrs2 dqK_160 dqw_cX7_sings_260 13 rfl rfl rfl rfl (by decide)
theorem dX7_sings_276 : decode cX7_sings 276 = .ok (.aload_n 0, 1) := dqr0 dqK_42 dqw_cX7_sings_260 16 rfl rfl
theorem dX7_sings_277 : decode cX7_sings 277 = .ok (.aload_n 0, 1) := dqr0 dqK_42 dqw_cX7_sings_260 17 rfl rfl
theorem dX7_sings_278 : decode cX7_sings 278 = .ok (.getfield 61, 3) := dqr2 dqK_180 dqw_cX7_sings_260 18 rfl rfl rfl rfl rfl
theorem dX7_sings_281 : decode cX7_sings 281 = .ok (.iconst 1, 1) := dqr0 dqK_4 dqw_cX7_sings_260 21 rfl rfl
theorem dX7_sings_282 : decode cX7_sings 282 = .ok (.iadd, 1) := dqr0 dqK_96 dqw_cX7_sings_260 22 rfl rfl
theorem dqw_cX7_sings_283 : dqLF cX7_sings 283 [182, 0, 247, 54, 8, 21, 8, 154, 0, 22, 42, 180, 0, 68, 28, 42, 21, 5, 21, 6, 182, 0, 251, 4] := by decide +kernel
theorem dX7_sings_283 : decode cX7_sings 283 = .ok (.invokevirtual 247, 3) := dqr2 dqK_182 dqw_cX7_sings_283 0 rfl rfl rfl rfl rfl
theorem dX7_sings_286 : decode cX7_sings 286 = .ok (.istore 8, 2) := dqr1 dqK_54 dqw_cX7_sings_283 3 rfl rfl rfl
theorem dX7_sings_288 : decode cX7_sings 288 = .ok (.iload 8, 2) := dqr1 dqK_21 dqw_cX7_sings_283 5 rfl rfl rfl
theorem dX7_sings_290 : decode cX7_sings 290 = .ok (.ifCond .ne 22, 3) := dqrs2 dqK_154 dqw_cX7_sings_283 7 rfl rfl rfl rfl (by decide)
theorem dX7_sings_293 : decode cX7_sings 293 = .ok (.aload_n 0, 1) := dqr0 dqK_42 dqw_cX7_sings_283 10 rfl rfl
theorem dX7_sings_294 : decode cX7_sings 294 = .ok (.getfield 68, 3) := dqr2 dqK_180 dqw_cX7_sings_283 11 rfl rfl rfl rfl rfl
theorem dX7_sings_297 : decode cX7_sings 297 = .ok (.iload_n 2, 1) := dqr0 dqK_28 dqw_cX7_sings_283 14 rfl rfl
theorem dX7_sings_298 : decode cX7_sings 298 = .ok (.aload_n 0, 1) := dqr0 dqK_42 dqw_cX7_sings_283 15 rfl rfl
theorem dX7_sings_299 : decode cX7_sings 299 = .ok (.iload 5, 2) := dqr1 dqK_21 dqw_cX7_sings_283 16 rfl rfl rfl
theorem dX7_sings_301 : decode cX7_sings 301 = .ok (.iload 6, 2) := dqr1 dqK_21 dqw_cX7_sings_283 18 rfl rfl rfl
theorem dX7_sings_303 : decode cX7_sings 303 = .ok (.invokevirtual 251, 3) := dqr2 dqK_182 dqw_cX7_sings_283 20 rfl rfl rfl rfl rfl
theorem dX7_sings_306 : decode cX7_sings 306 = .ok (.iconst 1, 1) := dqr0 dqK_4 dqw_cX7_sings_283 23 rfl rfl
theorem dqw_cX7_sings_307 : dqLF cX7_sings 307 [96, 79, 167, 0, 26, 42, 180, 0, 71, 21, 4, 21, 8, 79, 42, 180, 0, 74, 21, 4, 21, 6, 4, 96] := by decide +kernel
theorem dX7_sings_307 : decode cX7_sings 307 = .ok (.iadd, 1) := dqr0 dqK_96 dqw_cX7_sings_307 0 rfl rfl
theorem dX7_sings_308 : decode cX7_sings 308 = .ok (.iastore, 1) := dqr0 dqK_79 dqw_cX7_sings_307 1 rfl rfl
theorem dX7_sings_309 : decode cX7_sings 309 = .ok (.goto 26, 3) := dqrs2 dqK_167 dqw_cX7_sings_307 2 rfl rfl rfl rfl (by decide)
theorem dX7_sings_312 : decode cX7_sings 312 = .ok (.aload_n 0, 1) := dqr0 dqK_42 dqw_cX7_sings_307 5 rfl rfl
theorem dX7_sings_313 : decode cX7_sings 313 = .ok (.getfield 71, 3) := dqr2 dqK_180 dqw_cX7_sings_307 6 rfl rfl rfl rfl rfl
theorem dX7_sings_316 : decode cX7_sings 316 = .ok (.iload 4, 2) := dqr1 dqK_21 dqw_cX7_sings_307 9 rfl rfl rfl
theorem dX7_sings_318 : decode cX7_sings 318 = .ok (.iload 8, 2) := dqr1 dqK_21 dqw_cX7_sings_307 11 rfl rfl rfl
theorem dX7_sings_320 : decode cX7_sings 320 = .ok (.iastore, 1) := dqr0 dqK_79 dqw_cX7_sings_307 13 rfl rfl
theorem dX7_sings_321 : decode cX7_sings 321 = .ok (.aload_n 0, 1) := dqr0 dqK_42 dqw_cX7_sings_307 14 rfl rfl
theorem dX7_sings_322 : decode cX7_sings 322 = .ok (.getfield 74, 3) := dqr2 dqK_180 dqw_cX7_sings_307 15 rfl rfl rfl rfl rfl
theorem dX7_sings_325 : decode cX7_sings 325 = .ok (.iload 4, 2) := dqr1 dqK_21 dqw_cX7_sings_307 18 rfl rfl rfl
theorem dX7_sings_327 : decode cX7_sings 327 = .ok (.iload 6, 2) := dqr1 dqK_21 dqw_cX7_sings_307 20 rfl rfl rfl
theorem dX7_sings_329 : decode cX7_sings 329 = .ok (.iconst 1, 1) := dqr0 dqK_4 dqw_cX7_sings_307 22 rfl rfl
theorem dX7_sings_330 : decode cX7_sings 330 = .ok (.iadd, 1) := dqr0 dqK_96 dqw_cX7_sings_307 23 rfl rfl
theorem dqw_cX7_sings_331 : dqLF cX7_sings 331 [79, 132, 4, 1, 167, 0, 96, 21, 7, 184, 0, 217, 153, 0, 27, 132, 2, 1, 42, 180, 0, 65, 28] := by decide +kernel
theorem dX7_sings_331 : decode cX7_sings 331 = .ok (.iastore, 1) := dqr0 dqK_79 dqw_cX7_sings_331 0 rfl rfl
theorem dX7_sings_332 : decode cX7_sings 332 = .ok (.iinc 4 1, 3) := dqri dqK_132 dqw_cX7_sings_331 1 rfl rfl rfl rfl (by decide)
theorem dX7_sings_335 : decode cX7_sings 335 = .ok (.goto 96, 3) := dqrs2 dqK_167 dqw_cX7_sings_331 4 rfl rfl rfl rfl (by decide)
theorem dX7_sings_338 : decode cX7_sings 338 = .ok (.iload 7, 2) := dqr1 dqK_21 dqw_cX7_sings_331 7 rfl rfl rfl
theorem dX7_sings_340 : decode cX7_sings 340 = .ok (.invokestatic 217, 3) := dqr2 dqK_184 dqw_cX7_sings_331 9 rfl rfl rfl rfl rfl
theorem dX7_sings_343 : decode cX7_sings 343 = .ok (.ifCond .eq 27, 3) := dqrs2 dqK_153 dqw_cX7_sings_331 12 rfl rfl rfl rfl (by decide)
theorem dX7_sings_346 : decode cX7_sings 346 = .ok (.iinc 2 1, 3) := dqri dqK_132 dqw_cX7_sings_331 15 rfl rfl rfl rfl (by decide)
theorem dX7_sings_349 : decode cX7_sings 349 = .ok (.aload_n 0, 1) := dqr0 dqK_42 dqw_cX7_sings_331 18 rfl rfl
theorem dX7_sings_350 : decode cX7_sings 350 = .ok (.getfield 65, 3) := dqr2 dqK_180 dqw_cX7_sings_331 19 rfl rfl rfl rfl rfl
theorem dX7_sings_353 : decode cX7_sings 353 = .ok (.iload_n 2, 1) := dqr0 dqK_28 dqw_cX7_sings_331 22 rfl rfl
theorem dqw_cX7_sings_354 : dqLF cX7_sings 354 [21, 7, 16, 65, 100, 79, 42, 180, 0, 68, 28, 3, 79, 167, 0, 64, 42, 21, 7, 16, 97, 100] := by decide +kernel
theorem dX7_sings_354 : decode cX7_sings 354 = .ok (.iload 7, 2) := dqr1 dqK_21 dqw_cX7_sings_354 0 rfl rfl rfl
theorem dX7_sings_356 : decode cX7_sings 356 = .ok (.bipush 65, 2) := dqrs1 dqK_16 dqw_cX7_sings_354 2 rfl rfl rfl (by decide)
theorem dX7_sings_358 : decode cX7_sings 358 = .ok (.isub, 1) := dqr0 dqK_100 dqw_cX7_sings_354 4 rfl rfl
theorem dX7_sings_359 : decode cX7_sings 359 = .ok (.iastore, 1) := dqr0 dqK_79 dqw_cX7_sings_354 5 rfl rfl
theorem dX7_sings_360 : decode cX7_sings 360 = .ok (.aload_n 0, 1) := dqr0 dqK_42 dqw_cX7_sings_354 6 rfl rfl
theorem dX7_sings_361 : decode cX7_sings 361 = .ok (.getfield 68, 3) := dqr2 dqK_180 dqw_cX7_sings_354 7 rfl rfl rfl rfl rfl
theorem dX7_sings_364 : decode cX7_sings 364 = .ok (.iload_n 2, 1) := dqr0 dqK_28 dqw_cX7_sings_354 10 rfl rfl
theorem dX7_sings_365 : decode cX7_sings 365 = .ok (.iconst 0, 1) := dqr0 dqK_3 dqw_cX7_sings_354 11 rfl rfl
theorem dX7_sings_366 : decode cX7_sings 366 = .ok (.iastore, 1) := dqr0 dqK_79 dqw_cX7_sings_354 12 rfl rfl
theorem dX7_sings_367 : decode cX7_sings 367 = .ok (.goto 64, 3) := dqrs2 dqK_167 dqw_cX7_sings_354 13 rfl rfl rfl rfl (by decide)
theorem dX7_sings_370 : decode cX7_sings 370 = .ok (.aload_n 0, 1) := dqr0 dqK_42 dqw_cX7_sings_354 16 rfl rfl
theorem dX7_sings_371 : decode cX7_sings 371 = .ok (.iload 7, 2) := dqr1 dqK_21 dqw_cX7_sings_354 17 rfl rfl rfl
theorem dX7_sings_373 : decode cX7_sings 373 = .ok (.bipush 97, 2) := dqrs1 dqK_16 dqw_cX7_sings_354 19 rfl rfl rfl (by decide)
theorem dX7_sings_375 : decode cX7_sings 375 = .ok (.isub, 1) := dqr0 dqK_100 dqw_cX7_sings_354 21 rfl rfl
theorem dqw_cX7_sings_376 : dqLF cX7_sings 376 [182, 0, 254, 54, 8, 21, 8, 153, 0, 12, 42, 180, 0, 241, 16, 40, 160, 0, 5, 3, 172, 42] := by decide +kernel
theorem dX7_sings_376 : decode cX7_sings 376 = .ok (.invokevirtual 254, 3) := dqr2 dqK_182 dqw_cX7_sings_376 0 rfl rfl rfl rfl rfl
theorem dX7_sings_379 : decode cX7_sings 379 = .ok (.istore 8, 2) := dqr1 dqK_54 dqw_cX7_sings_376 3 rfl rfl rfl
theorem dX7_sings_381 : decode cX7_sings 381 = .ok (.iload 8, 2) := dqr1 dqK_21 dqw_cX7_sings_376 5 rfl rfl rfl
theorem dX7_sings_383 : decode cX7_sings 383 = .ok (.ifCond .eq 12, 3) := dqrs2 dqK_153 dqw_cX7_sings_376 7 rfl rfl rfl rfl (by decide)
theorem dX7_sings_386 : decode cX7_sings 386 = .ok (.aload_n 0, 1) := dqr0 dqK_42 dqw_cX7_sings_376 10 rfl rfl
theorem dX7_sings_387 : decode cX7_sings 387 = .ok (.getfield 241, 3) := dqr2 dqK_180 dqw_cX7_sings_376 11 rfl rfl rfl rfl rfl
theorem dX7_sings_390 : decode cX7_sings 390 = .ok (.bipush 40, 2) := dqrs1 dqK_16 dqw_cX7_sings_376 14 rfl rfl rfl (by decide)
theorem dX7_sings_392 : decode cX7_sings 392 = .ok (.if_icmp .ne 5, 3) := dqrs2 dqK_160 dqw_cX7_sings_376 16 rfl rfl rfl rfl (by decide)
theorem dX7_sings_395 : decode cX7_sings 395 = .ok (.iconst 0, 1) := dqr0 dqK_3 dqw_cX7_sings_376 19 rfl rfl
theorem dX7_sings_396 : decode cX7_sings 396 = .ok (.ireturn, 1) := dqr0 dqK_172 dqw_cX7_sings_376 20 rfl rfl
theorem dX7_sings_397 : decode cX7_sings 397 = .ok (.aload_n 0, 1) := dqr0 dqK_42 dqw_cX7_sings_376 21 rfl rfl
theorem dqw_cX7_sings_398 : dqLF cX7_sings 398 [180, 0, 80, 42, 180, 0, 241, 42, 21, 7, 16, 97, 100, 42, 21, 8, 182, 0, 247, 182, 1, 1, 79, 42] := by decide +kernel
theorem dX7_sings_398 : decode cX7_sings 398 = .ok (.getfield 80, 3) := dqr2 dqK_180 dqw_cX7_sings_398 0 rfl rfl rfl rfl rfl
theorem dX7_sings_401 : decode cX7_sings 401 = .ok (.aload_n 0, 1) := dqr0 dqK_42 dqw_cX7_sings_398 3 rfl rfl
theorem dX7_sings_402 : decode cX7_sings 402 = .ok (.getfield 241, 3) := dqr2 dqK_180 dqw_cX7_sings_398 4 rfl rfl rfl rfl rfl
theorem dX7_sings_405 : decode cX7_sings 405 = .ok (.aload_n 0, 1) := dqr0 dqK_42 dqw_cX7_sings_398 7 rfl rfl
theorem dX7_sings_406 : decode cX7_sings 406 = .ok (.iload 7, 2) := dqr1 dqK_21 dqw_cX7_sings_398 8 rfl rfl rfl
theorem dX7_sings_408 : decode cX7_sings 408 = .ok (.bipush 97, 2) := dqrs1 dqK_16 dqw_cX7_sings_398 10 rfl rfl rfl (by decide)
theorem dX7_sings_410 : decode cX7_sings 410 = .ok (.isub, 1) := dqr0 dqK_100 dqw_cX7_sings_398 12 rfl rfl
theorem dX7_sings_411 : decode cX7_sings 411 = .ok (.aload_n 0, 1) := dqr0 dqK_42 dqw_cX7_sings_398 13 rfl rfl
theorem dX7_sings_412 : decode cX7_sings 412 = .ok (.iload 8, 2) := dqr1 dqK_21 dqw_cX7_sings_398 14 rfl rfl rfl
theorem dX7_sings_414 : decode cX7_sings 414 = .ok (.invokevirtual 247, 3) := dqr2 dqK_182 dqw_cX7_sings_398 16 rfl rfl rfl rfl rfl
theorem dX7_sings_417 : decode cX7_sings 417 = .ok (.invokevirtual 257, 3) := dqr2 dqK_182 dqw_cX7_sings_398 19 rfl rfl rfl rfl rfl
theorem dX7_sings_420 : decode cX7_sings 420 = .ok (.iastore, 1) := dqr0 dqK_79 dqw_cX7_sings_398 22 rfl rfl
theorem dX7_sings_421 : decode cX7_sings 421 = .ok (.aload_n 0, 1) := dqr0 dqK_42 dqw_cX7_sings_398 23 rfl rfl
theorem dqw_cX7_sings_422 : dqLF cX7_sings 422 [89, 180, 0, 241, 4, 96, 181, 0, 241, 167, 254, 107, 4, 172] := by decide +kernel
theorem dX7_sings_422 : decode cX7_sings 422 = .ok (.dup, 1) := dqr0 dqK_89 dqw_cX7_sings_422 0 rfl rfl
theorem dX7_sings_423 : decode cX7_sings 423 = .ok (.getfield 241, 3) := dqr2 dqK_180 dqw_cX7_sings_422 1 rfl rfl rfl rfl rfl
theorem dX7_sings_426 : decode cX7_sings 426 = .ok (.iconst 1, 1) := dqr0 dqK_4 dqw_cX7_sings_422 4 rfl rfl
theorem dX7_sings_427 : decode cX7_sings 427 = .ok (.iadd, 1) := dqr0 dqK_96 dqw_cX7_sings_422 5 rfl rfl
theorem dX7_sings_428 : decode cX7_sings 428 = .ok (.putfield 241, 3) := dqr2 dqK_181 dqw_cX7_sings_422 6 rfl rfl rfl rfl rfl
theorem dX7_sings_431 : decode cX7_sings 431 = .ok (.goto (-405), 3) := dqrs2 dqK_167 dqw_cX7_sings_422 9 rfl rfl rfl rfl (by decide)
theorem dX7_sings_434 : decode cX7_sings 434 = .ok (.iconst 1, 1) := dqr0 dqK_4 dqw_cX7_sings_422 12 rfl rfl
theorem dX7_sings_435 : decode cX7_sings 435 = .ok (.ireturn, 1) := dqr0 dqK_172 dqw_cX7_sings_422 13 rfl rfl
theorem dqw_cX7_sing_0 : dqLF cX7_sing 0 [42, 27, 182, 0, 220, 153, 0, 11, 42, 28, 182, 1, 4, 154, 0, 5, 2, 172, 29, 184, 1, 7] := by decide +kernel
theorem dX7_sing_0 : decode cX7_sing 0 = .ok (.aload_n 0, 1) := dqr0 dqK_42 dqw_cX7_sing_0 0 rfl rfl
theorem dX7_sing_1 : decode cX7_sing 1 = .ok (.iload_n 1, 1) := dqr0 dqK_27 dqw_cX7_sing_0 1 rfl rfl
theorem dX7_sing_2 : decode cX7_sing 2 = .ok (.invokevirtual 220, 3) := dqr2 dqK_182 dqw_cX7_sing_0 2 rfl rfl rfl rfl rfl
theorem dX7_sing_5 : decode cX7_sing 5 = .ok (.ifCond .eq 11, 3) := dqrs2 dqK_153 dqw_cX7_sing_0 5 rfl rfl rfl rfl (by decide)
theorem dX7_sing_8 : decode cX7_sing 8 = .ok (.aload_n 0, 1) := dqr0 dqK_42 dqw_cX7_sing_0 8 rfl rfl
theorem dX7_sing_9 : decode cX7_sing 9 = .ok (.iload_n 2, 1) := dqr0 dqK_28 dqw_cX7_sing_0 9 rfl rfl
theorem dX7_sing_10 : decode cX7_sing 10 = .ok (.invokevirtual 260, 3) := dqr2 dqK_182 dqw_cX7_sing_0 10 rfl rfl rfl rfl rfl
theorem dX7_sing_13 : decode cX7_sing 13 = .ok (.ifCond .ne 5, 3) := dqrs2 dqK_154 dqw_cX7_sing_0 13 rfl rfl rfl rfl (by decide)
theorem dX7_sing_16 : decode cX7_sing 16 = .ok (.iconst (-1), 1) := dqr0 dqK_2 dqw_cX7_sing_0 16 rfl rfl
theorem dX7_sing_17 : decode cX7_sing 17 = .ok (.ireturn, 1) := dqr0 dqK_172 dqw_cX7_sing_0 17 rfl rfl
theorem dX7_sing_18 : decode cX7_sing 18 = .ok (.iload_n 3, 1) := dqr0 dqK_29 dqw_cX7_sing_0 18 rfl rfl
theorem dX7_sing_19 : decode cX7_sing 19 = .ok (.invokestatic 263, 3) := dqr2 dqK_184 dqw_cX7_sing_0 19 rfl rfl rfl rfl rfl
theorem dqw_cX7_sing_22 : dqLF cX7_sing 22 [153, 0, 10, 22, 4, 9, 148, 156, 0, 6, 16, 254, 172, 42, 28, 29, 42, 180, 1, 10, 182, 1, 13, 42] := by decide +kernel
theorem dX7_sing_22 : decode cX7_sing 22 = .ok (.ifCond .eq 10, 3) := dqrs2 dqK_153 dqw_cX7_sing_22 0 rfl rfl rfl rfl (by decide)
theorem dX7_sing_25 : decode cX7_sing 25 = .ok (.lload 4, 2) := dqr1 dqK_22 dqw_cX7_sing_22 3 rfl rfl rfl
theorem dX7_sing_27 : decode cX7_sing 27 = .ok (.lconst 0, 1) := dqr0 dqK_9 dqw_cX7_sing_22 5 rfl rfl
theorem dX7_sing_28 : decode cX7_sing 28 = .ok (.lcmp, 1) := dqr0 dqK_148 dqw_cX7_sing_22 6 rfl rfl
theorem dX7_sing_29 : decode cX7_sing 29 = .ok (.ifCond .ge 6, 3) := dqrs2 dqK_156 dqw_cX7_sing_22 7 rfl rfl rfl rfl (by decide)
theorem dX7_sing_32 : decode cX7_sing 32 = .ok (.bipush (-2), 2) := dqrs1 dqK_16 dqw_cX7_sing_22 10 rfl rfl rfl (by decide)
theorem dX7_sing_34 : decode cX7_sing 34 = .ok (.ireturn, 1) := dqr0 dqK_172 dqw_cX7_sing_22 12 rfl rfl
theorem dX7_sing_35 : decode cX7_sing 35 = .ok (.aload_n 0, 1) := dqr0 dqK_42 dqw_cX7_sing_22 13 rfl rfl
theorem dX7_sing_36 : decode cX7_sing 36 = .ok (.iload_n 2, 1) := dqr0 dqK_28 dqw_cX7_sing_22 14 rfl rfl
theorem dX7_sing_37 : decode cX7_sing 37 = .ok (.iload_n 3, 1) := dqr0 dqK_29 dqw_cX7_sing_22 15 rfl rfl
theorem dX7_sing_38 : decode cX7_sing 38 = .ok (.aload_n 0, 1) := dqr0 dqK_42 dqw_cX7_sing_22 16 rfl rfl
theorem dX7_sing_39 : decode cX7_sing 39 = .ok (.getfield 266, 3) := dqr2 dqK_180 dqw_cX7_sing_22 17 rfl rfl rfl rfl rfl
theorem dX7_sing_42 : decode cX7_sing 42 = .ok (.invokevirtual 269, 3) := dqr2 dqK_182 dqw_cX7_sing_22 20 rfl rfl rfl rfl rfl
theorem dX7_sing_45 : decode cX7_sing 45 = .ok (.aload_n 0, 1) := dqr0 dqK_42 dqw_cX7_sing_22 23 rfl rfl
theorem dqw_cX7_sing_46 : dqLF cX7_sing 46 [22, 4, 181, 0, 237, 42, 27, 182, 1, 17, 154, 0, 6, 16, 253, 172, 42, 42, 180, 0, 241, 181, 1, 20] := by decide +kernel
theorem dX7_sing_46 : decode cX7_sing 46 = .ok (.lload 4, 2) := dqr1 dqK_22 dqw_cX7_sing_46 0 rfl rfl rfl
theorem dX7_sing_48 : decode cX7_sing 48 = .ok (.putfield 237, 3) := dqr2 dqK_181 dqw_cX7_sing_46 2 rfl rfl rfl rfl rfl
theorem dX7_sing_51 : decode cX7_sing 51 = .ok (.aload_n 0, 1) := dqr0 dqK_42 dqw_cX7_sing_46 5 rfl rfl
theorem dX7_sing_52 : decode cX7_sing 52 = .ok (.iload_n 1, 1) := dqr0 dqK_27 dqw_cX7_sing_46 6 rfl rfl
theorem dX7_sing_53 : decode cX7_sing 53 = .ok (.invokevirtual 273, 3) := dqr2 dqK_182 dqw_cX7_sing_46 7 rfl rfl rfl rfl rfl
theorem dX7_sing_56 : decode cX7_sing 56 = .ok (.ifCond .ne 6, 3) := dqrs2 dqK_154 dqw_cX7_sing_46 10 rfl rfl rfl rfl (by decide)
theorem dX7_sing_59 : decode cX7_sing 59 = .ok (.bipush (-3), 2) := dqrs1 dqK_16 dqw_cX7_sing_46 13 rfl rfl rfl (by decide)
theorem dX7_sing_61 : decode cX7_sing 61 = .ok (.ireturn, 1) := dqr0 dqK_172 dqw_cX7_sing_46 15 rfl rfl
theorem dX7_sing_62 : decode cX7_sing 62 = .ok (.aload_n 0, 1) := dqr0 dqK_42 dqw_cX7_sing_46 16 rfl rfl
theorem dX7_sing_63 : decode cX7_sing 63 = .ok (.aload_n 0, 1) := dqr0 dqK_42 dqw_cX7_sing_46 17 rfl rfl
theorem dX7_sing_64 : decode cX7_sing 64 = .ok (.getfield 241, 3) := dqr2 dqK_180 dqw_cX7_sing_46 18 rfl rfl rfl rfl rfl
theorem dX7_sing_67 : decode cX7_sing 67 = .ok (.putfield 276, 3) := dqr2 dqK_181 dqw_cX7_sing_46 21 rfl rfl rfl rfl rfl
theorem dqw_cX7_sing_70 : dqLF cX7_sing 70 [3, 54, 6, 21, 6, 42, 180, 0, 241, 162, 0, 23, 42, 180, 0, 77, 21, 6, 42, 180, 0, 80, 21, 6] := by decide +kernel
theorem dX7_sing_70 : decode cX7_sing 70 = .ok (.iconst 0, 1) := dqr0 dqK_3 dqw_cX7_sing_70 0 rfl rfl
theorem dX7_sing_71 : decode cX7_sing 71 = .ok (.istore 6, 2) := dqr1 dqK_54 dqw_cX7_sing_70 1 rfl rfl rfl
theorem dX7_sing_73 : decode cX7_sing 73 = .ok (.iload 6, 2) := dqr1 dqK_21 dqw_cX7_sing_70 3 rfl rfl rfl
theorem dX7_sing_75 : decode cX7_sing 75 = .ok (.aload_n 0, 1) := dqr0 dqK_42 dqw_cX7_sing_70 5 rfl rfl
theorem dX7_sing_76 : decode cX7_sing 76 = .ok (.getfield 241, 3) := dqr2 dqK_180 dqw_cX7_sing_70 6 rfl rfl rfl rfl rfl
theorem dX7_sing_79 : decode cX7_sing 79 = .ok (.if_icmp .ge 23, 3) := dqrs2 dqK_162 dqw_cX7_sing_70 9 rfl rfl rfl rfl (by decide)
theorem dX7_sing_82 : decode cX7_sing 82 = .ok (.aload_n 0, 1) := dqr0 dqK_42 dqw_cX7_sing_70 12 rfl rfl
theorem dX7_sing_83 : decode cX7_sing 83 = .ok (.getfield 77, 3) := dqr2 dqK_180 dqw_cX7_sing_70 13 rfl rfl rfl rfl rfl
theorem dX7_sing_86 : decode cX7_sing 86 = .ok (.iload 6, 2) := dqr1 dqK_21 dqw_cX7_sing_70 16 rfl rfl rfl
theorem dX7_sing_88 : decode cX7_sing 88 = .ok (.aload_n 0, 1) := dqr0 dqK_42 dqw_cX7_sing_70 18 rfl rfl
theorem dX7_sing_89 : decode cX7_sing 89 = .ok (.getfield 80, 3) := dqr2 dqK_180 dqw_cX7_sing_70 19 rfl rfl rfl rfl rfl
theorem dX7_sing_92 : decode cX7_sing 92 = .ok (.iload 6, 2) := dqr1 dqK_21 dqw_cX7_sing_70 22 rfl rfl rfl
theorem dqw_cX7_sing_94 : dqLF cX7_sing 94 [46, 79, 132, 6, 1, 167, 255, 230, 42, 180, 1, 20, 172] := by decide +kernel
theorem dX7_sing_94 : decode cX7_sing 94 = .ok (.iaload, 1) := dqr0 dqK_46 dqw_cX7_sing_94 0 rfl rfl
theorem dX7_sing_95 : decode cX7_sing 95 = .ok (.iastore, 1) := dqr0 dqK_79 dqw_cX7_sing_94 1 rfl rfl
theorem dX7_sing_96 : decode cX7_sing 96 = .ok (.iinc 6 1, 3) := dqri dqK_132 dqw_cX7_sing_94 2 rfl rfl rfl rfl (by decide)
theorem dX7_sing_99 : decode cX7_sing 99 = .ok (.goto (-26), 3) := dqrs2 dqK_167 dqw_cX7_sing_94 5 rfl rfl rfl rfl (by decide)
theorem dX7_sing_102 : decode cX7_sing 102 = .ok (.aload_n 0, 1) := dqr0 dqK_42 dqw_cX7_sing_94 8 rfl rfl
theorem dX7_sing_103 : decode cX7_sing 103 = .ok (.getfield 276, 3) := dqr2 dqK_180 dqw_cX7_sing_94 9 rfl rfl rfl rfl rfl
theorem dX7_sing_106 : decode cX7_sing 106 = .ok (.ireturn, 1) := dqr0 dqK_172 dqw_cX7_sing_94 12 rfl rfl
theorem dqw_cX7_sung_0 : dqLF cX7_sung 0 [27, 133, 9, 42, 180, 1, 20, 4, 100, 133, 184, 0, 152, 153, 0, 12, 42, 180, 0, 77, 27, 46] := by decide +kernel
theorem dX7_sung_0 : decode cX7_sung 0 = .ok (.iload_n 1, 1) := dqr0 dqK_27 dqw_cX7_sung_0 0 rfl rfl
theorem dX7_sung_1 : decode cX7_sung 1 = .ok (.i2l, 1) := dqr0 dqK_133 dqw_cX7_sung_0 1 rfl rfl
theorem dX7_sung_2 : decode cX7_sung 2 = .ok (.lconst 0, 1) := dqr0 dqK_9 dqw_cX7_sung_0 2 rfl rfl
theorem dX7_sung_3 : decode cX7_sung 3 = .ok (.aload_n 0, 1) := dqr0 dqK_42 dqw_cX7_sung_0 3 rfl rfl
theorem dX7_sung_4 : decode cX7_sung 4 = .ok (.getfield 276, 3) := dqr2 dqK_180 dqw_cX7_sung_0 4 rfl rfl rfl rfl rfl
theorem dX7_sung_7 : decode cX7_sung 7 = .ok (.iconst 1, 1) := dqr0 dqK_4 dqw_cX7_sung_0 7 rfl rfl
theorem dX7_sung_8 : decode cX7_sung 8 = .ok (.isub, 1) := dqr0 dqK_100 dqw_cX7_sung_0 8 rfl rfl
theorem dX7_sung_9 : decode cX7_sung 9 = .ok (.i2l, 1) := dqr0 dqK_133 dqw_cX7_sung_0 9 rfl rfl
theorem dX7_sung_10 : decode cX7_sung 10 = .ok (.invokestatic 152, 3) := dqr2 dqK_184 dqw_cX7_sung_0 10 rfl rfl rfl rfl rfl
theorem dX7_sung_13 : decode cX7_sung 13 = .ok (.ifCond .eq 12, 3) := dqrs2 dqK_153 dqw_cX7_sung_0 13 rfl rfl rfl rfl (by decide)
theorem dX7_sung_16 : decode cX7_sung 16 = .ok (.aload_n 0, 1) := dqr0 dqK_42 dqw_cX7_sung_0 16 rfl rfl
theorem dX7_sung_17 : decode cX7_sung 17 = .ok (.getfield 77, 3) := dqr2 dqK_180 dqw_cX7_sung_0 17 rfl rfl rfl rfl rfl
theorem dX7_sung_20 : decode cX7_sung 20 = .ok (.iload_n 1, 1) := dqr0 dqK_27 dqw_cX7_sung_0 20 rfl rfl
theorem dX7_sung_21 : decode cX7_sung 21 = .ok (.iaload, 1) := dqr0 dqK_46 dqw_cX7_sung_0 21 rfl rfl
theorem dqw_cX7_sung_22 : dqLF cX7_sung 22 [167, 0, 4, 2, 172] := by decide +kernel
theorem dX7_sung_22 : decode cX7_sung 22 = .ok (.goto 4, 3) := dqrs2 dqK_167 dqw_cX7_sung_22 0 rfl rfl rfl rfl (by decide)
theorem dX7_sung_25 : decode cX7_sung 25 = .ok (.iconst (-1), 1) := dqr0 dqK_2 dqw_cX7_sung_22 3 rfl rfl
theorem dX7_sung_26 : decode cX7_sung 26 = .ok (.ireturn, 1) := dqr0 dqK_172 dqw_cX7_sung_22 4 rfl rfl
theorem dqw_cX7_least_0 : dqLF cX7_least 0 [30, 20, 1, 23, 148, 158, 0, 9, 19, 1, 25, 167, 0, 5, 30, 136, 172] := by decide +kernel
theorem dX7_least_0 : decode cX7_least 0 = .ok (.lload_n 0, 1) := dqr0 dqK_30 dqw_cX7_least_0 0 rfl rfl
theorem dX7_least_1 : decode cX7_least 1 = .ok (.ldc2_w 279, 3) := dqr2 dqK_20 dqw_cX7_least_0 1 rfl rfl rfl rfl rfl
theorem dX7_least_4 : decode cX7_least 4 = .ok (.lcmp, 1) := dqr0 dqK_148 dqw_cX7_least_0 4 rfl rfl
theorem dX7_least_5 : decode cX7_least 5 = .ok (.ifCond .le 9, 3) := dqrs2 dqK_158 dqw_cX7_least_0 5 rfl rfl rfl rfl (by decide)
theorem dX7_least_8 : decode cX7_least 8 = .ok (.ldc_w 281, 3) := dqr2 dqK_19 dqw_cX7_least_0 8 rfl rfl rfl rfl rfl
theorem dX7_least_11 : decode cX7_least 11 = .ok (.goto 5, 3) := dqrs2 dqK_167 dqw_cX7_least_0 11 rfl rfl rfl rfl (by decide)
theorem dX7_least_14 : decode cX7_least 14 = .ok (.lload_n 0, 1) := dqr0 dqK_30 dqw_cX7_least_0 14 rfl rfl
theorem dX7_least_15 : decode cX7_least 15 = .ok (.l2i, 1) := dqr0 dqK_136 dqw_cX7_least_0 15 rfl rfl
theorem dX7_least_16 : decode cX7_least 16 = .ok (.ireturn, 1) := dqr0 dqK_172 dqw_cX7_least_0 16 rfl rfl
theorem dqw_cX7_times_0 : dqLF cX7_times 0 [3, 62, 29, 42, 180, 1, 26, 163, 0, 95, 3, 54, 4, 21, 4, 42, 180, 1, 26, 163, 0, 77, 9] := by decide +kernel
theorem dX7_times_0 : decode cX7_times 0 = .ok (.iconst 0, 1) := dqr0 dqK_3 dqw_cX7_times_0 0 rfl rfl
theorem dX7_times_1 : decode cX7_times 1 = .ok (.istore_n 3, 1) := dqr0 dqK_62 dqw_cX7_times_0 1 rfl rfl
theorem dX7_times_2 : decode cX7_times 2 = .ok (.iload_n 3, 1) := dqr0 dqK_29 dqw_cX7_times_0 2 rfl rfl
theorem dX7_times_3 : decode cX7_times 3 = .ok (.aload_n 0, 1) := dqr0 dqK_42 dqw_cX7_times_0 3 rfl rfl
theorem dX7_times_4 : decode cX7_times 4 = .ok (.getfield 282, 3) := dqr2 dqK_180 dqw_cX7_times_0 4 rfl rfl rfl rfl rfl
theorem dX7_times_7 : decode cX7_times 7 = .ok (.if_icmp .gt 95, 3) := dqrs2 dqK_163 dqw_cX7_times_0 7 rfl rfl rfl rfl (by decide)
theorem dX7_times_10 : decode cX7_times 10 = .ok (.iconst 0, 1) := dqr0 dqK_3 dqw_cX7_times_0 10 rfl rfl
theorem dX7_times_11 : decode cX7_times 11 = .ok (.istore 4, 2) := dqr1 dqK_54 dqw_cX7_times_0 11 rfl rfl rfl
theorem dX7_times_13 : decode cX7_times 13 = .ok (.iload 4, 2) := dqr1 dqK_21 dqw_cX7_times_0 13 rfl rfl rfl
theorem dX7_times_15 : decode cX7_times 15 = .ok (.aload_n 0, 1) := dqr0 dqK_42 dqw_cX7_times_0 15 rfl rfl
theorem dX7_times_16 : decode cX7_times 16 = .ok (.getfield 282, 3) := dqr2 dqK_180 dqw_cX7_times_0 16 rfl rfl rfl rfl rfl
theorem dX7_times_19 : decode cX7_times 19 = .ok (.if_icmp .gt 77, 3) := dqrs2 dqK_163 dqw_cX7_times_0 19 rfl rfl rfl rfl (by decide)
theorem dX7_times_22 : decode cX7_times 22 = .ok (.lconst 0, 1) := dqr0 dqK_9 dqw_cX7_times_0 22 rfl rfl
theorem dqw_cX7_times_23 : dqLF cX7_times 23 [55, 5, 29, 54, 7, 21, 7, 21, 4, 163, 0, 41, 22, 5, 42, 180, 0, 98, 16, 25, 29, 104, 21, 7] := by decide +kernel
theorem dX7_times_23 : decode cX7_times 23 = .ok (.lstore 5, 2) := dqr1 dqK_55 dqw_cX7_times_23 0 rfl rfl rfl
theorem dX7_times_25 : decode cX7_times 25 = .ok (.iload_n 3, 1) := dqr0 dqK_29 dqw_cX7_times_23 2 rfl rfl
theorem dX7_times_26 : decode cX7_times 26 = .ok (.istore 7, 2) := dqr1 dqK_54 dqw_cX7_times_23 3 rfl rfl rfl
theorem dX7_times_28 : decode cX7_times 28 = .ok (.iload 7, 2) := dqr1 dqK_21 dqw_cX7_times_23 5 rfl rfl rfl
theorem dX7_times_30 : decode cX7_times 30 = .ok (.iload 4, 2) := dqr1 dqK_21 dqw_cX7_times_23 7 rfl rfl rfl
theorem dX7_times_32 : decode cX7_times 32 = .ok (.if_icmp .gt 41, 3) := dqrs2 dqK_163 dqw_cX7_times_23 9 rfl rfl rfl rfl (by decide)
theorem dX7_times_35 : decode cX7_times 35 = .ok (.lload 5, 2) := dqr1 dqK_22 dqw_cX7_times_23 12 rfl rfl rfl
theorem dX7_times_37 : decode cX7_times 37 = .ok (.aload_n 0, 1) := dqr0 dqK_42 dqw_cX7_times_23 14 rfl rfl
theorem dX7_times_38 : decode cX7_times 38 = .ok (.getfield 98, 3) := dqr2 dqK_180 dqw_cX7_times_23 15 rfl rfl rfl rfl rfl
theorem dX7_times_41 : decode cX7_times 41 = .ok (.bipush 25, 2) := dqrs1 dqK_16 dqw_cX7_times_23 18 rfl rfl rfl (by decide)
theorem dX7_times_43 : decode cX7_times 43 = .ok (.iload_n 3, 1) := dqr0 dqK_29 dqw_cX7_times_23 20 rfl rfl
theorem dX7_times_44 : decode cX7_times 44 = .ok (.imul, 1) := dqr0 dqK_104 dqw_cX7_times_23 21 rfl rfl
theorem dX7_times_45 : decode cX7_times 45 = .ok (.iload 7, 2) := dqr1 dqK_21 dqw_cX7_times_23 22 rfl rfl rfl
theorem dqw_cX7_times_47 : dqLF cX7_times 47 [96, 46, 133, 43, 28, 16, 25, 21, 7, 104, 96, 21, 4, 96, 46, 133, 105, 97, 55, 5, 132, 7, 1] := by decide +kernel
theorem dX7_times_47 : decode cX7_times 47 = .ok (.iadd, 1) := dqr0 dqK_96 dqw_cX7_times_47 0 rfl rfl
theorem dX7_times_48 : decode cX7_times 48 = .ok (.iaload, 1) := dqr0 dqK_46 dqw_cX7_times_47 1 rfl rfl
theorem dX7_times_49 : decode cX7_times 49 = .ok (.i2l, 1) := dqr0 dqK_133 dqw_cX7_times_47 2 rfl rfl
theorem dX7_times_50 : decode cX7_times 50 = .ok (.aload_n 1, 1) := dqr0 dqK_43 dqw_cX7_times_47 3 rfl rfl
theorem dX7_times_51 : decode cX7_times 51 = .ok (.iload_n 2, 1) := dqr0 dqK_28 dqw_cX7_times_47 4 rfl rfl
theorem dX7_times_52 : decode cX7_times 52 = .ok (.bipush 25, 2) := dqrs1 dqK_16 dqw_cX7_times_47 5 rfl rfl rfl (by decide)
theorem dX7_times_54 : decode cX7_times 54 = .ok (.iload 7, 2) := dqr1 dqK_21 dqw_cX7_times_47 7 rfl rfl rfl
theorem dX7_times_56 : decode cX7_times 56 = .ok (.imul, 1) := dqr0 dqK_104 dqw_cX7_times_47 9 rfl rfl
theorem dX7_times_57 : decode cX7_times 57 = .ok (.iadd, 1) := dqr0 dqK_96 dqw_cX7_times_47 10 rfl rfl
theorem dX7_times_58 : decode cX7_times 58 = .ok (.iload 4, 2) := dqr1 dqK_21 dqw_cX7_times_47 11 rfl rfl rfl
theorem dX7_times_60 : decode cX7_times 60 = .ok (.iadd, 1) := dqr0 dqK_96 dqw_cX7_times_47 13 rfl rfl
theorem dX7_times_61 : decode cX7_times 61 = .ok (.iaload, 1) := dqr0 dqK_46 dqw_cX7_times_47 14 rfl rfl
theorem dX7_times_62 : decode cX7_times 62 = .ok (.i2l, 1) := dqr0 dqK_133 dqw_cX7_times_47 15 rfl rfl
theorem dX7_times_63 : decode cX7_times 63 = .ok (.lmul, 1) := dqr0 dqK_105 dqw_cX7_times_47 16 rfl rfl
theorem dX7_times_64 : decode cX7_times 64 = .ok (.ladd, 1) := dqr0 dqK_97 dqw_cX7_times_47 17 rfl rfl
theorem dX7_times_65 : decode cX7_times 65 = .ok (.lstore 5, 2) := dqr1 dqK_55 dqw_cX7_times_47 18 rfl rfl rfl
theorem dX7_times_67 : decode cX7_times 67 = .ok (.iinc 7 1, 3) := dqri dqK_132 dqw_cX7_times_47 20 rfl rfl rfl rfl (by decide)
theorem dqw_cX7_times_70 : dqLF cX7_times 70 [167, 255, 214, 42, 180, 0, 92, 16, 25, 29, 104, 21, 4, 96, 22, 5, 184, 1, 29, 79, 132, 4, 1] := by decide +kernel
theorem dX7_times_70 : decode cX7_times 70 = .ok (.goto (-42), 3) := dqrs2 dqK_167 dqw_cX7_times_70 0 rfl rfl rfl rfl (by decide)
theorem dX7_times_73 : decode cX7_times 73 = .ok (.aload_n 0, 1) := dqr0 dqK_42 dqw_cX7_times_70 3 rfl rfl
theorem dX7_times_74 : decode cX7_times 74 = .ok (.getfield 92, 3) := dqr2 dqK_180 dqw_cX7_times_70 4 rfl rfl rfl rfl rfl
theorem dX7_times_77 : decode cX7_times 77 = .ok (.bipush 25, 2) := dqrs1 dqK_16 dqw_cX7_times_70 7 rfl rfl rfl (by decide)
theorem dX7_times_79 : decode cX7_times 79 = .ok (.iload_n 3, 1) := dqr0 dqK_29 dqw_cX7_times_70 9 rfl rfl
theorem dX7_times_80 : decode cX7_times 80 = .ok (.imul, 1) := dqr0 dqK_104 dqw_cX7_times_70 10 rfl rfl
theorem dX7_times_81 : decode cX7_times 81 = .ok (.iload 4, 2) := dqr1 dqK_21 dqw_cX7_times_70 11 rfl rfl rfl
theorem dX7_times_83 : decode cX7_times 83 = .ok (.iadd, 1) := dqr0 dqK_96 dqw_cX7_times_70 13 rfl rfl
theorem dX7_times_84 : decode cX7_times 84 = .ok (.lload 5, 2) := dqr1 dqK_22 dqw_cX7_times_70 14 rfl rfl rfl
theorem dX7_times_86 : decode cX7_times 86 = .ok (.invokestatic 285, 3) := dqr2 dqK_184 dqw_cX7_times_70 16 rfl rfl rfl rfl rfl
theorem dX7_times_89 : decode cX7_times 89 = .ok (.iastore, 1) := dqr0 dqK_79 dqw_cX7_times_70 19 rfl rfl
theorem dX7_times_90 : decode cX7_times 90 = .ok (.iinc 4 1, 3) := dqri dqK_132 dqw_cX7_times_70 20 rfl rfl rfl rfl (by decide)
theorem dqw_cX7_times_93 : dqLF cX7_times 93 [167, 255, 176, 132, 3, 1, 167, 255, 159, 3, 62, 29, 17, 2, 113, 162, 0, 21, 42, 180, 0, 98, 29, 42] := by decide +kernel
theorem dX7_times_93 : decode cX7_times 93 = .ok (.goto (-80), 3) := dqrs2 dqK_167 dqw_cX7_times_93 0 rfl rfl rfl rfl (by decide)
theorem dX7_times_96 : decode cX7_times 96 = .ok (.iinc 3 1, 3) := dqri dqK_132 dqw_cX7_times_93 3 rfl rfl rfl rfl (by decide)
theorem dX7_times_99 : decode cX7_times 99 = .ok (.goto (-97), 3) := dqrs2 dqK_167 dqw_cX7_times_93 6 rfl rfl rfl rfl (by decide)
theorem dX7_times_102 : decode cX7_times 102 = .ok (.iconst 0, 1) := dqr0 dqK_3 dqw_cX7_times_93 9 rfl rfl
theorem dX7_times_103 : decode cX7_times 103 = .ok (.istore_n 3, 1) := dqr0 dqK_62 dqw_cX7_times_93 10 rfl rfl
theorem dX7_times_104 : decode cX7_times 104 = .ok (.iload_n 3, 1) := dqr0 dqK_29 dqw_cX7_times_93 11 rfl rfl
theorem dX7_times_105 : decode cX7_times 105 = .ok (.sipush 625, 3) := dqrs2 dqK_17 dqw_cX7_times_93 12 rfl rfl rfl rfl (by decide)
theorem dX7_times_108 : decode cX7_times 108 = .ok (.if_icmp .ge 21, 3) := dqrs2 dqK_162 dqw_cX7_times_93 15 rfl rfl rfl rfl (by decide)
theorem dX7_times_111 : decode cX7_times 111 = .ok (.aload_n 0, 1) := dqr0 dqK_42 dqw_cX7_times_93 18 rfl rfl
theorem dX7_times_112 : decode cX7_times 112 = .ok (.getfield 98, 3) := dqr2 dqK_180 dqw_cX7_times_93 19 rfl rfl rfl rfl rfl
theorem dX7_times_115 : decode cX7_times 115 = .ok (.iload_n 3, 1) := dqr0 dqK_29 dqw_cX7_times_93 22 rfl rfl
theorem dX7_times_116 : decode cX7_times 116 = .ok (.aload_n 0, 1) := dqr0 dqK_42 dqw_cX7_times_93 23 rfl rfl
theorem dqw_cX7_times_117 : dqLF cX7_times 117 [180, 0, 92, 29, 46, 79, 132, 3, 1, 167, 255, 234, 177] := by decide +kernel
theorem dX7_times_117 : decode cX7_times 117 = .ok (.getfield 92, 3) := dqr2 dqK_180 dqw_cX7_times_117 0 rfl rfl rfl rfl rfl
theorem dX7_times_120 : decode cX7_times 120 = .ok (.iload_n 3, 1) := dqr0 dqK_29 dqw_cX7_times_117 3 rfl rfl
theorem dX7_times_121 : decode cX7_times 121 = .ok (.iaload, 1) := dqr0 dqK_46 dqw_cX7_times_117 4 rfl rfl
theorem dX7_times_122 : decode cX7_times 122 = .ok (.iastore, 1) := dqr0 dqK_79 dqw_cX7_times_117 5 rfl rfl
theorem dX7_times_123 : decode cX7_times 123 = .ok (.iinc 3 1, 3) := dqri dqK_132 dqw_cX7_times_117 6 rfl rfl rfl rfl (by decide)
theorem dX7_times_126 : decode cX7_times 126 = .ok (.goto (-22), 3) := dqrs2 dqK_167 dqw_cX7_times_117 9 rfl rfl rfl rfl (by decide)
theorem dX7_times_129 : decode cX7_times 129 = .ok (.return_, 1) := dqr0 dqK_177 dqw_cX7_times_117 12 rfl rfl
theorem dqw_cX7_begins_0 : dqLF cX7_begins 0 [3, 60, 27, 17, 2, 113, 162, 0, 34, 42, 180, 0, 98, 27, 27, 16, 26, 112, 154, 0, 7, 4] := by decide +kernel
theorem dX7_begins_0 : decode cX7_begins 0 = .ok (.iconst 0, 1) := dqr0 dqK_3 dqw_cX7_begins_0 0 rfl rfl
theorem dX7_begins_1 : decode cX7_begins 1 = .ok (.istore_n 1, 1) := dqr0 dqK_60 dqw_cX7_begins_0 1 rfl rfl
theorem dX7_begins_2 : decode cX7_begins 2 = .ok (.iload_n 1, 1) := dqr0 dqK_27 dqw_cX7_begins_0 2 rfl rfl
theorem dX7_begins_3 : decode cX7_begins 3 = .ok (.sipush 625, 3) := dqrs2 dqK_17 dqw_cX7_begins_0 3 rfl rfl rfl rfl (by decide)
theorem dX7_begins_6 : decode cX7_begins 6 = .ok (.if_icmp .ge 34, 3) := dqrs2 dqK_162 dqw_cX7_begins_0 6 rfl rfl rfl rfl (by decide)
theorem dX7_begins_9 : decode cX7_begins 9 = .ok (.aload_n 0, 1) := dqr0 dqK_42 dqw_cX7_begins_0 9 rfl rfl
theorem dX7_begins_10 : decode cX7_begins 10 = .ok (.getfield 98, 3) := dqr2 dqK_180 dqw_cX7_begins_0 10 rfl rfl rfl rfl rfl
theorem dX7_begins_13 : decode cX7_begins 13 = .ok (.iload_n 1, 1) := dqr0 dqK_27 dqw_cX7_begins_0 13 rfl rfl
theorem dX7_begins_14 : decode cX7_begins 14 = .ok (.iload_n 1, 1) := dqr0 dqK_27 dqw_cX7_begins_0 14 rfl rfl
theorem dX7_begins_15 : decode cX7_begins 15 = .ok (.bipush 26, 2) := dqrs1 dqK_16 dqw_cX7_begins_0 15 rfl rfl rfl (by decide)
theorem dX7_begins_17 : decode cX7_begins 17 = .ok (.irem, 1) := dqr0 dqK_112 dqw_cX7_begins_0 17 rfl rfl
theorem dX7_begins_18 : decode cX7_begins 18 = .ok (.ifCond .ne 7, 3) := dqrs2 dqK_154 dqw_cX7_begins_0 18 rfl rfl rfl rfl (by decide)
theorem dX7_begins_21 : decode cX7_begins 21 = .ok (.iconst 1, 1) := dqr0 dqK_4 dqw_cX7_begins_0 21 rfl rfl
theorem dqw_cX7_begins_22 : dqLF cX7_begins 22 [167, 0, 4, 3, 79, 42, 180, 0, 92, 27, 3, 79, 132, 1, 1, 167, 255, 221, 177] := by decide +kernel
theorem dX7_begins_22 : decode cX7_begins 22 = .ok (.goto 4, 3) := dqrs2 dqK_167 dqw_cX7_begins_22 0 rfl rfl rfl rfl (by decide)
theorem dX7_begins_25 : decode cX7_begins 25 = .ok (.iconst 0, 1) := dqr0 dqK_3 dqw_cX7_begins_22 3 rfl rfl
theorem dX7_begins_26 : decode cX7_begins 26 = .ok (.iastore, 1) := dqr0 dqK_79 dqw_cX7_begins_22 4 rfl rfl
theorem dX7_begins_27 : decode cX7_begins 27 = .ok (.aload_n 0, 1) := dqr0 dqK_42 dqw_cX7_begins_22 5 rfl rfl
theorem dX7_begins_28 : decode cX7_begins 28 = .ok (.getfield 92, 3) := dqr2 dqK_180 dqw_cX7_begins_22 6 rfl rfl rfl rfl rfl
theorem dX7_begins_31 : decode cX7_begins 31 = .ok (.iload_n 1, 1) := dqr0 dqK_27 dqw_cX7_begins_22 9 rfl rfl
theorem dX7_begins_32 : decode cX7_begins 32 = .ok (.iconst 0, 1) := dqr0 dqK_3 dqw_cX7_begins_22 10 rfl rfl
theorem dX7_begins_33 : decode cX7_begins 33 = .ok (.iastore, 1) := dqr0 dqK_79 dqw_cX7_begins_22 11 rfl rfl
theorem dX7_begins_34 : decode cX7_begins 34 = .ok (.iinc 1 1, 3) := dqri dqK_132 dqw_cX7_begins_22 12 rfl rfl rfl rfl (by decide)
theorem dX7_begins_37 : decode cX7_begins 37 = .ok (.goto (-35), 3) := dqrs2 dqK_167 dqw_cX7_begins_22 15 rfl rfl rfl rfl (by decide)
theorem dX7_begins_40 : decode cX7_begins 40 = .ok (.return_, 1) := dqr0 dqK_177 dqw_cX7_begins_22 18 rfl rfl
theorem dqw_cX7_takesSlot_0 : dqLF cX7_takesSlot 0 [3, 61, 28, 42, 180, 1, 26, 163, 0, 72, 42, 180, 1, 26, 62, 29, 158, 0, 47, 42, 180, 0, 98] := by decide +kernel
theorem dX7_takesSlot_0 : decode cX7_takesSlot 0 = .ok (.iconst 0, 1) := dqr0 dqK_3 dqw_cX7_takesSlot_0 0 rfl rfl
theorem dX7_takesSlot_1 : decode cX7_takesSlot 1 = .ok (.istore_n 2, 1) := dqr0 dqK_61 dqw_cX7_takesSlot_0 1 rfl rfl
theorem dX7_takesSlot_2 : decode cX7_takesSlot 2 = .ok (.iload_n 2, 1) := dqr0 dqK_28 dqw_cX7_takesSlot_0 2 rfl rfl
theorem dX7_takesSlot_3 : decode cX7_takesSlot 3 = .ok (.aload_n 0, 1) := dqr0 dqK_42 dqw_cX7_takesSlot_0 3 rfl rfl
theorem dX7_takesSlot_4 : decode cX7_takesSlot 4 = .ok (.getfield 282, 3) := dqr2 dqK_180 dqw_cX7_takesSlot_0 4 rfl rfl rfl rfl rfl
theorem dX7_takesSlot_7 : decode cX7_takesSlot 7 = .ok (.if_icmp .gt 72, 3) := dqrs2 dqK_163 dqw_cX7_takesSlot_0 7 rfl rfl rfl rfl (by decide)
theorem dX7_takesSlot_10 : decode cX7_takesSlot 10 = .ok (.aload_n 0, 1) := dqr0 dqK_42 dqw_cX7_takesSlot_0 10 rfl rfl
theorem dX7_takesSlot_11 : decode cX7_takesSlot 11 = .ok (.getfield 282, 3) := dqr2 dqK_180 dqw_cX7_takesSlot_0 11 rfl rfl rfl rfl rfl
theorem dX7_takesSlot_14 : decode cX7_takesSlot 14 = .ok (.istore_n 3, 1) := dqr0 dqK_62 dqw_cX7_takesSlot_0 14 rfl rfl
theorem dX7_takesSlot_15 : decode cX7_takesSlot 15 = .ok (.iload_n 3, 1) := dqr0 dqK_29 dqw_cX7_takesSlot_0 15 rfl rfl
theorem dX7_takesSlot_16 : decode cX7_takesSlot 16 = .ok (.ifCond .le 47, 3) := dqrs2 dqK_158 dqw_cX7_takesSlot_0 16 rfl rfl rfl rfl (by decide)
theorem dX7_takesSlot_19 : decode cX7_takesSlot 19 = .ok (.aload_n 0, 1) := dqr0 dqK_42 dqw_cX7_takesSlot_0 19 rfl rfl
theorem dX7_takesSlot_20 : decode cX7_takesSlot 20 = .ok (.getfield 98, 3) := dqr2 dqK_180 dqw_cX7_takesSlot_0 20 rfl rfl rfl rfl rfl
theorem dqw_cX7_takesSlot_23 : dqLF cX7_takesSlot 23 [16, 25, 28, 104, 29, 96, 42, 180, 0, 98, 16, 25, 28, 104, 29, 96, 4, 100, 46, 133, 42, 29, 4, 100] := by decide +kernel
theorem dX7_takesSlot_23 : decode cX7_takesSlot 23 = .ok (.bipush 25, 2) := dqrs1 dqK_16 dqw_cX7_takesSlot_23 0 rfl rfl rfl (by decide)
theorem dX7_takesSlot_25 : decode cX7_takesSlot 25 = .ok (.iload_n 2, 1) := dqr0 dqK_28 dqw_cX7_takesSlot_23 2 rfl rfl
theorem dX7_takesSlot_26 : decode cX7_takesSlot 26 = .ok (.imul, 1) := dqr0 dqK_104 dqw_cX7_takesSlot_23 3 rfl rfl
theorem dX7_takesSlot_27 : decode cX7_takesSlot 27 = .ok (.iload_n 3, 1) := dqr0 dqK_29 dqw_cX7_takesSlot_23 4 rfl rfl
theorem dX7_takesSlot_28 : decode cX7_takesSlot 28 = .ok (.iadd, 1) := dqr0 dqK_96 dqw_cX7_takesSlot_23 5 rfl rfl
theorem dX7_takesSlot_29 : decode cX7_takesSlot 29 = .ok (.aload_n 0, 1) := dqr0 dqK_42 dqw_cX7_takesSlot_23 6 rfl rfl
theorem dX7_takesSlot_30 : decode cX7_takesSlot 30 = .ok (.getfield 98, 3) := dqr2 dqK_180 dqw_cX7_takesSlot_23 7 rfl rfl rfl rfl rfl
theorem dX7_takesSlot_33 : decode cX7_takesSlot 33 = .ok (.bipush 25, 2) := dqrs1 dqK_16 dqw_cX7_takesSlot_23 10 rfl rfl rfl (by decide)
theorem dX7_takesSlot_35 : decode cX7_takesSlot 35 = .ok (.iload_n 2, 1) := dqr0 dqK_28 dqw_cX7_takesSlot_23 12 rfl rfl
theorem dX7_takesSlot_36 : decode cX7_takesSlot 36 = .ok (.imul, 1) := dqr0 dqK_104 dqw_cX7_takesSlot_23 13 rfl rfl
theorem dX7_takesSlot_37 : decode cX7_takesSlot 37 = .ok (.iload_n 3, 1) := dqr0 dqK_29 dqw_cX7_takesSlot_23 14 rfl rfl
theorem dX7_takesSlot_38 : decode cX7_takesSlot 38 = .ok (.iadd, 1) := dqr0 dqK_96 dqw_cX7_takesSlot_23 15 rfl rfl
theorem dX7_takesSlot_39 : decode cX7_takesSlot 39 = .ok (.iconst 1, 1) := dqr0 dqK_4 dqw_cX7_takesSlot_23 16 rfl rfl
theorem dX7_takesSlot_40 : decode cX7_takesSlot 40 = .ok (.isub, 1) := dqr0 dqK_100 dqw_cX7_takesSlot_23 17 rfl rfl
theorem dX7_takesSlot_41 : decode cX7_takesSlot 41 = .ok (.iaload, 1) := dqr0 dqK_46 dqw_cX7_takesSlot_23 18 rfl rfl
theorem dX7_takesSlot_42 : decode cX7_takesSlot 42 = .ok (.i2l, 1) := dqr0 dqK_133 dqw_cX7_takesSlot_23 19 rfl rfl
theorem dX7_takesSlot_43 : decode cX7_takesSlot 43 = .ok (.aload_n 0, 1) := dqr0 dqK_42 dqw_cX7_takesSlot_23 20 rfl rfl
theorem dX7_takesSlot_44 : decode cX7_takesSlot 44 = .ok (.iload_n 3, 1) := dqr0 dqK_29 dqw_cX7_takesSlot_23 21 rfl rfl
theorem dX7_takesSlot_45 : decode cX7_takesSlot 45 = .ok (.iconst 1, 1) := dqr0 dqK_4 dqw_cX7_takesSlot_23 22 rfl rfl
theorem dX7_takesSlot_46 : decode cX7_takesSlot 46 = .ok (.isub, 1) := dqr0 dqK_100 dqw_cX7_takesSlot_23 23 rfl rfl
theorem dqw_cX7_takesSlot_47 : dqLF cX7_takesSlot 47 [27, 182, 1, 33, 133, 105, 184, 1, 29, 79, 132, 3, 255, 167, 255, 211, 42, 180, 0, 98, 16, 25, 28, 104] := by decide +kernel
theorem dX7_takesSlot_47 : decode cX7_takesSlot 47 = .ok (.iload_n 1, 1) := dqr0 dqK_27 dqw_cX7_takesSlot_47 0 rfl rfl
theorem dX7_takesSlot_48 : decode cX7_takesSlot 48 = .ok (.invokevirtual 289, 3) := dqr2 dqK_182 dqw_cX7_takesSlot_47 1 rfl rfl rfl rfl rfl
theorem dX7_takesSlot_51 : decode cX7_takesSlot 51 = .ok (.i2l, 1) := dqr0 dqK_133 dqw_cX7_takesSlot_47 4 rfl rfl
theorem dX7_takesSlot_52 : decode cX7_takesSlot 52 = .ok (.lmul, 1) := dqr0 dqK_105 dqw_cX7_takesSlot_47 5 rfl rfl
theorem dX7_takesSlot_53 : decode cX7_takesSlot 53 = .ok (.invokestatic 285, 3) := dqr2 dqK_184 dqw_cX7_takesSlot_47 6 rfl rfl rfl rfl rfl
theorem dX7_takesSlot_56 : decode cX7_takesSlot 56 = .ok (.iastore, 1) := dqr0 dqK_79 dqw_cX7_takesSlot_47 9 rfl rfl
theorem dX7_takesSlot_57 : decode cX7_takesSlot 57 = .ok (.iinc 3 (-1), 3) := dqri dqK_132 dqw_cX7_takesSlot_47 10 rfl rfl rfl rfl (by decide)
theorem dX7_takesSlot_60 : decode cX7_takesSlot 60 = .ok (.goto (-45), 3) := dqrs2 dqK_167 dqw_cX7_takesSlot_47 13 rfl rfl rfl rfl (by decide)
theorem dX7_takesSlot_63 : decode cX7_takesSlot 63 = .ok (.aload_n 0, 1) := dqr0 dqK_42 dqw_cX7_takesSlot_47 16 rfl rfl
theorem dX7_takesSlot_64 : decode cX7_takesSlot 64 = .ok (.getfield 98, 3) := dqr2 dqK_180 dqw_cX7_takesSlot_47 17 rfl rfl rfl rfl rfl
theorem dX7_takesSlot_67 : decode cX7_takesSlot 67 = .ok (.bipush 25, 2) := dqrs1 dqK_16 dqw_cX7_takesSlot_47 20 rfl rfl rfl (by decide)
theorem dX7_takesSlot_69 : decode cX7_takesSlot 69 = .ok (.iload_n 2, 1) := dqr0 dqK_28 dqw_cX7_takesSlot_47 22 rfl rfl
theorem dX7_takesSlot_70 : decode cX7_takesSlot 70 = .ok (.imul, 1) := dqr0 dqK_104 dqw_cX7_takesSlot_47 23 rfl rfl
theorem dqw_cX7_takesSlot_71 : dqLF cX7_takesSlot 71 [3, 79, 132, 2, 1, 167, 255, 182, 177] := by decide +kernel
theorem dX7_takesSlot_71 : decode cX7_takesSlot 71 = .ok (.iconst 0, 1) := dqr0 dqK_3 dqw_cX7_takesSlot_71 0 rfl rfl
theorem dX7_takesSlot_72 : decode cX7_takesSlot 72 = .ok (.iastore, 1) := dqr0 dqK_79 dqw_cX7_takesSlot_71 1 rfl rfl
theorem dX7_takesSlot_73 : decode cX7_takesSlot 73 = .ok (.iinc 2 1, 3) := dqri dqK_132 dqw_cX7_takesSlot_71 2 rfl rfl rfl rfl (by decide)
theorem dX7_takesSlot_76 : decode cX7_takesSlot 76 = .ok (.goto (-74), 3) := dqrs2 dqK_167 dqw_cX7_takesSlot_71 5 rfl rfl rfl rfl (by decide)
theorem dX7_takesSlot_79 : decode cX7_takesSlot 79 = .ok (.return_, 1) := dqr0 dqK_177 dqw_cX7_takesSlot_71 8 rfl rfl
theorem dqw_cX7_waysAt_0 : dqLF cX7_waysAt 0 [42, 180, 0, 104, 27, 46, 62, 29, 16, 40, 160, 0, 9, 42, 28, 182, 0, 254, 172, 42, 180, 0, 126, 29] := by decide +kernel
theorem dX7_waysAt_0 : decode cX7_waysAt 0 = .ok (.aload_n 0, 1) := dqr0 dqK_42 dqw_cX7_waysAt_0 0 rfl rfl
theorem dX7_waysAt_1 : decode cX7_waysAt 1 = .ok (.getfield 104, 3) := dqr2 dqK_180 dqw_cX7_waysAt_0 1 rfl rfl rfl rfl rfl
theorem dX7_waysAt_4 : decode cX7_waysAt 4 = .ok (.iload_n 1, 1) := dqr0 dqK_27 dqw_cX7_waysAt_0 4 rfl rfl
theorem dX7_waysAt_5 : decode cX7_waysAt 5 = .ok (.iaload, 1) := dqr0 dqK_46 dqw_cX7_waysAt_0 5 rfl rfl
theorem dX7_waysAt_6 : decode cX7_waysAt 6 = .ok (.istore_n 3, 1) := dqr0 dqK_62 dqw_cX7_waysAt_0 6 rfl rfl
theorem dX7_waysAt_7 : decode cX7_waysAt 7 = .ok (.iload_n 3, 1) := dqr0 dqK_29 dqw_cX7_waysAt_0 7 rfl rfl
theorem dX7_waysAt_8 : decode cX7_waysAt 8 = .ok (.bipush 40, 2) := dqrs1 dqK_16 dqw_cX7_waysAt_0 8 rfl rfl rfl (by decide)
theorem dX7_waysAt_10 : decode cX7_waysAt 10 = .ok (.if_icmp .ne 9, 3) := dqrs2 dqK_160 dqw_cX7_waysAt_0 10 rfl rfl rfl rfl (by decide)
theorem dX7_waysAt_13 : decode cX7_waysAt 13 = .ok (.aload_n 0, 1) := dqr0 dqK_42 dqw_cX7_waysAt_0 13 rfl rfl
theorem dX7_waysAt_14 : decode cX7_waysAt 14 = .ok (.iload_n 2, 1) := dqr0 dqK_28 dqw_cX7_waysAt_0 14 rfl rfl
theorem dX7_waysAt_15 : decode cX7_waysAt 15 = .ok (.invokevirtual 254, 3) := dqr2 dqK_182 dqw_cX7_waysAt_0 15 rfl rfl rfl rfl rfl
theorem dX7_waysAt_18 : decode cX7_waysAt 18 = .ok (.ireturn, 1) := dqr0 dqK_172 dqw_cX7_waysAt_0 18 rfl rfl
theorem dX7_waysAt_19 : decode cX7_waysAt 19 = .ok (.aload_n 0, 1) := dqr0 dqK_42 dqw_cX7_waysAt_0 19 rfl rfl
theorem dX7_waysAt_20 : decode cX7_waysAt 20 = .ok (.getfield 126, 3) := dqr2 dqK_180 dqw_cX7_waysAt_0 20 rfl rfl rfl rfl rfl
theorem dX7_waysAt_23 : decode cX7_waysAt 23 = .ok (.iload_n 3, 1) := dqr0 dqK_29 dqw_cX7_waysAt_0 23 rfl rfl
theorem dqw_cX7_waysAt_24 : dqLF cX7_waysAt 24 [51, 153, 0, 17, 42, 180, 0, 31, 29, 46, 28, 160, 0, 7, 4, 167, 0, 4, 3, 172] := by decide +kernel
theorem dX7_waysAt_24 : decode cX7_waysAt 24 = .ok (.baload, 1) := dqr0 dqK_51 dqw_cX7_waysAt_24 0 rfl rfl
theorem dX7_waysAt_25 : decode cX7_waysAt 25 = .ok (.ifCond .eq 17, 3) := dqrs2 dqK_153 dqw_cX7_waysAt_24 1 rfl rfl rfl rfl (by decide)
theorem dX7_waysAt_28 : decode cX7_waysAt 28 = .ok (.aload_n 0, 1) := dqr0 dqK_42 dqw_cX7_waysAt_24 4 rfl rfl
theorem dX7_waysAt_29 : decode cX7_waysAt 29 = .ok (.getfield 31, 3) := dqr2 dqK_180 dqw_cX7_waysAt_24 5 rfl rfl rfl rfl rfl
theorem dX7_waysAt_32 : decode cX7_waysAt 32 = .ok (.iload_n 3, 1) := dqr0 dqK_29 dqw_cX7_waysAt_24 8 rfl rfl
theorem dX7_waysAt_33 : decode cX7_waysAt 33 = .ok (.iaload, 1) := dqr0 dqK_46 dqw_cX7_waysAt_24 9 rfl rfl
theorem dX7_waysAt_34 : decode cX7_waysAt 34 = .ok (.iload_n 2, 1) := dqr0 dqK_28 dqw_cX7_waysAt_24 10 rfl rfl
theorem dX7_waysAt_35 : decode cX7_waysAt 35 = .ok (.if_icmp .ne 7, 3) := dqrs2 dqK_160 dqw_cX7_waysAt_24 11 rfl rfl rfl rfl (by decide)
theorem dX7_waysAt_38 : decode cX7_waysAt 38 = .ok (.iconst 1, 1) := dqr0 dqK_4 dqw_cX7_waysAt_24 14 rfl rfl
theorem dX7_waysAt_39 : decode cX7_waysAt 39 = .ok (.goto 4, 3) := dqrs2 dqK_167 dqw_cX7_waysAt_24 15 rfl rfl rfl rfl (by decide)
theorem dX7_waysAt_42 : decode cX7_waysAt 42 = .ok (.iconst 0, 1) := dqr0 dqK_3 dqw_cX7_waysAt_24 18 rfl rfl
theorem dX7_waysAt_43 : decode cX7_waysAt 43 = .ok (.ireturn, 1) := dqr0 dqK_172 dqw_cX7_waysAt_24 19 rfl rfl
theorem dqw_cX7_closes_0 : dqLF cX7_closes 0 [3, 62, 29, 17, 2, 113, 162, 0, 45, 42, 180, 0, 95, 29, 42, 180, 0, 98, 29, 46, 79, 42] := by decide +kernel
theorem dX7_closes_0 : decode cX7_closes 0 = .ok (.iconst 0, 1) := dqr0 dqK_3 dqw_cX7_closes_0 0 rfl rfl
theorem dX7_closes_1 : decode cX7_closes 1 = .ok (.istore_n 3, 1) := dqr0 dqK_62 dqw_cX7_closes_0 1 rfl rfl
theorem dX7_closes_2 : decode cX7_closes 2 = .ok (.iload_n 3, 1) := dqr0 dqK_29 dqw_cX7_closes_0 2 rfl rfl
theorem dX7_closes_3 : decode cX7_closes 3 = .ok (.sipush 625, 3) := dqrs2 dqK_17 dqw_cX7_closes_0 3 rfl rfl rfl rfl (by decide)
theorem dX7_closes_6 : decode cX7_closes 6 = .ok (.if_icmp .ge 45, 3) := dqrs2 dqK_162 dqw_cX7_closes_0 6 rfl rfl rfl rfl (by decide)
theorem dX7_closes_9 : decode cX7_closes 9 = .ok (.aload_n 0, 1) := dqr0 dqK_42 dqw_cX7_closes_0 9 rfl rfl
theorem dX7_closes_10 : decode cX7_closes 10 = .ok (.getfield 95, 3) := dqr2 dqK_180 dqw_cX7_closes_0 10 rfl rfl rfl rfl rfl
theorem dX7_closes_13 : decode cX7_closes 13 = .ok (.iload_n 3, 1) := dqr0 dqK_29 dqw_cX7_closes_0 13 rfl rfl
theorem dX7_closes_14 : decode cX7_closes 14 = .ok (.aload_n 0, 1) := dqr0 dqK_42 dqw_cX7_closes_0 14 rfl rfl
theorem dX7_closes_15 : decode cX7_closes 15 = .ok (.getfield 98, 3) := dqr2 dqK_180 dqw_cX7_closes_0 15 rfl rfl rfl rfl rfl
theorem dX7_closes_18 : decode cX7_closes 18 = .ok (.iload_n 3, 1) := dqr0 dqK_29 dqw_cX7_closes_0 18 rfl rfl
theorem dX7_closes_19 : decode cX7_closes 19 = .ok (.iaload, 1) := dqr0 dqK_46 dqw_cX7_closes_0 19 rfl rfl
theorem dX7_closes_20 : decode cX7_closes 20 = .ok (.iastore, 1) := dqr0 dqK_79 dqw_cX7_closes_0 20 rfl rfl
theorem dX7_closes_21 : decode cX7_closes 21 = .ok (.aload_n 0, 1) := dqr0 dqK_42 dqw_cX7_closes_0 21 rfl rfl
theorem dqw_cX7_closes_22 : dqLF cX7_closes 22 [180, 0, 89, 17, 2, 113, 28, 104, 29, 96, 29, 16, 26, 112, 154, 0, 7, 4, 167, 0, 4, 3, 79] := by decide +kernel
theorem dX7_closes_22 : decode cX7_closes 22 = .ok (.getfield 89, 3) := dqr2 dqK_180 dqw_cX7_closes_22 0 rfl rfl rfl rfl rfl
theorem dX7_closes_25 : decode cX7_closes 25 = .ok (.sipush 625, 3) := dqrs2 dqK_17 dqw_cX7_closes_22 3 rfl rfl rfl rfl (by decide)
theorem dX7_closes_28 : decode cX7_closes 28 = .ok (.iload_n 2, 1) := dqr0 dqK_28 dqw_cX7_closes_22 6 rfl rfl
theorem dX7_closes_29 : decode cX7_closes 29 = .ok (.imul, 1) := dqr0 dqK_104 dqw_cX7_closes_22 7 rfl rfl
theorem dX7_closes_30 : decode cX7_closes 30 = .ok (.iload_n 3, 1) := dqr0 dqK_29 dqw_cX7_closes_22 8 rfl rfl
theorem dX7_closes_31 : decode cX7_closes 31 = .ok (.iadd, 1) := dqr0 dqK_96 dqw_cX7_closes_22 9 rfl rfl
theorem dX7_closes_32 : decode cX7_closes 32 = .ok (.iload_n 3, 1) := dqr0 dqK_29 dqw_cX7_closes_22 10 rfl rfl
theorem dX7_closes_33 : decode cX7_closes 33 = .ok (.bipush 26, 2) := dqrs1 dqK_16 dqw_cX7_closes_22 11 rfl rfl rfl (by decide)
theorem dX7_closes_35 : decode cX7_closes 35 = .ok (.irem, 1) := dqr0 dqK_112 dqw_cX7_closes_22 13 rfl rfl
theorem dX7_closes_36 : decode cX7_closes 36 = .ok (.ifCond .ne 7, 3) := dqrs2 dqK_154 dqw_cX7_closes_22 14 rfl rfl rfl rfl (by decide)
theorem dX7_closes_39 : decode cX7_closes 39 = .ok (.iconst 1, 1) := dqr0 dqK_4 dqw_cX7_closes_22 17 rfl rfl
theorem dX7_closes_40 : decode cX7_closes 40 = .ok (.goto 4, 3) := dqrs2 dqK_167 dqw_cX7_closes_22 18 rfl rfl rfl rfl (by decide)
theorem dX7_closes_43 : decode cX7_closes 43 = .ok (.iconst 0, 1) := dqr0 dqK_3 dqw_cX7_closes_22 21 rfl rfl
theorem dX7_closes_44 : decode cX7_closes 44 = .ok (.iastore, 1) := dqr0 dqK_79 dqw_cX7_closes_22 22 rfl rfl
theorem dqw_cX7_closes_45 : dqLF cX7_closes 45 [132, 3, 1, 167, 255, 210, 42, 182, 1, 36, 3, 62, 29, 27, 162, 0, 74, 42, 42, 180, 0, 95, 3] := by decide +kernel
theorem dX7_closes_45 : decode cX7_closes 45 = .ok (.iinc 3 1, 3) := dqri dqK_132 dqw_cX7_closes_45 0 rfl rfl rfl rfl (by decide)
theorem dX7_closes_48 : decode cX7_closes 48 = .ok (.goto (-46), 3) := dqrs2 dqK_167 dqw_cX7_closes_45 3 rfl rfl rfl rfl (by decide)
theorem dX7_closes_51 : decode cX7_closes 51 = .ok (.aload_n 0, 1) := dqr0 dqK_42 dqw_cX7_closes_45 6 rfl rfl
theorem dX7_closes_52 : decode cX7_closes 52 = .ok (.invokevirtual 292, 3) := dqr2 dqK_182 dqw_cX7_closes_45 7 rfl rfl rfl rfl rfl
theorem dX7_closes_55 : decode cX7_closes 55 = .ok (.iconst 0, 1) := dqr0 dqK_3 dqw_cX7_closes_45 10 rfl rfl
theorem dX7_closes_56 : decode cX7_closes 56 = .ok (.istore_n 3, 1) := dqr0 dqK_62 dqw_cX7_closes_45 11 rfl rfl
theorem dX7_closes_57 : decode cX7_closes 57 = .ok (.iload_n 3, 1) := dqr0 dqK_29 dqw_cX7_closes_45 12 rfl rfl
theorem dX7_closes_58 : decode cX7_closes 58 = .ok (.iload_n 1, 1) := dqr0 dqK_27 dqw_cX7_closes_45 13 rfl rfl
theorem dX7_closes_59 : decode cX7_closes 59 = .ok (.if_icmp .ge 74, 3) := dqrs2 dqK_162 dqw_cX7_closes_45 14 rfl rfl rfl rfl (by decide)
theorem dX7_closes_62 : decode cX7_closes 62 = .ok (.aload_n 0, 1) := dqr0 dqK_42 dqw_cX7_closes_45 17 rfl rfl
theorem dX7_closes_63 : decode cX7_closes 63 = .ok (.aload_n 0, 1) := dqr0 dqK_42 dqw_cX7_closes_45 18 rfl rfl
theorem dX7_closes_64 : decode cX7_closes 64 = .ok (.getfield 95, 3) := dqr2 dqK_180 dqw_cX7_closes_45 19 rfl rfl rfl rfl rfl
theorem dX7_closes_67 : decode cX7_closes 67 = .ok (.iconst 0, 1) := dqr0 dqK_3 dqw_cX7_closes_45 22 rfl rfl
theorem dqw_cX7_closes_68 : dqLF cX7_closes 68 [182, 1, 39, 3, 54, 4, 21, 4, 17, 2, 113, 162, 0, 48, 42, 180, 0, 89, 17, 2, 113, 28, 104] := by decide +kernel
theorem dX7_closes_68 : decode cX7_closes 68 = .ok (.invokevirtual 295, 3) := dqr2 dqK_182 dqw_cX7_closes_68 0 rfl rfl rfl rfl rfl
theorem dX7_closes_71 : decode cX7_closes 71 = .ok (.iconst 0, 1) := dqr0 dqK_3 dqw_cX7_closes_68 3 rfl rfl
theorem dX7_closes_72 : decode cX7_closes 72 = .ok (.istore 4, 2) := dqr1 dqK_54 dqw_cX7_closes_68 4 rfl rfl rfl
theorem dX7_closes_74 : decode cX7_closes 74 = .ok (.iload 4, 2) := dqr1 dqK_21 dqw_cX7_closes_68 6 rfl rfl rfl
theorem dX7_closes_76 : decode cX7_closes 76 = .ok (.sipush 625, 3) := dqrs2 dqK_17 dqw_cX7_closes_68 8 rfl rfl rfl rfl (by decide)
theorem dX7_closes_79 : decode cX7_closes 79 = .ok (.if_icmp .ge 48, 3) := dqrs2 dqK_162 dqw_cX7_closes_68 11 rfl rfl rfl rfl (by decide)
theorem dX7_closes_82 : decode cX7_closes 82 = .ok (.aload_n 0, 1) := dqr0 dqK_42 dqw_cX7_closes_68 14 rfl rfl
theorem dX7_closes_83 : decode cX7_closes 83 = .ok (.getfield 89, 3) := dqr2 dqK_180 dqw_cX7_closes_68 15 rfl rfl rfl rfl rfl
theorem dX7_closes_86 : decode cX7_closes 86 = .ok (.sipush 625, 3) := dqrs2 dqK_17 dqw_cX7_closes_68 18 rfl rfl rfl rfl (by decide)
theorem dX7_closes_89 : decode cX7_closes 89 = .ok (.iload_n 2, 1) := dqr0 dqK_28 dqw_cX7_closes_68 21 rfl rfl
theorem dX7_closes_90 : decode cX7_closes 90 = .ok (.imul, 1) := dqr0 dqK_104 dqw_cX7_closes_68 22 rfl rfl
theorem dqw_cX7_closes_91 : dqLF cX7_closes 91 [21, 4, 96, 42, 180, 0, 89, 17, 2, 113, 28, 104, 21, 4, 96, 46, 133, 42, 180, 0, 98, 21, 4, 46] := by decide +kernel
theorem dX7_closes_91 : decode cX7_closes 91 = .ok (.iload 4, 2) := dqr1 dqK_21 dqw_cX7_closes_91 0 rfl rfl rfl
theorem dX7_closes_93 : decode cX7_closes 93 = .ok (.iadd, 1) := dqr0 dqK_96 dqw_cX7_closes_91 2 rfl rfl
theorem dX7_closes_94 : decode cX7_closes 94 = .ok (.aload_n 0, 1) := dqr0 dqK_42 dqw_cX7_closes_91 3 rfl rfl
theorem dX7_closes_95 : decode cX7_closes 95 = .ok (.getfield 89, 3) := dqr2 dqK_180 dqw_cX7_closes_91 4 rfl rfl rfl rfl rfl
theorem dX7_closes_98 : decode cX7_closes 98 = .ok (.sipush 625, 3) := dqrs2 dqK_17 dqw_cX7_closes_91 7 rfl rfl rfl rfl (by decide)
theorem dX7_closes_101 : decode cX7_closes 101 = .ok (.iload_n 2, 1) := dqr0 dqK_28 dqw_cX7_closes_91 10 rfl rfl
theorem dX7_closes_102 : decode cX7_closes 102 = .ok (.imul, 1) := dqr0 dqK_104 dqw_cX7_closes_91 11 rfl rfl
theorem dX7_closes_103 : decode cX7_closes 103 = .ok (.iload 4, 2) := dqr1 dqK_21 dqw_cX7_closes_91 12 rfl rfl rfl
theorem dX7_closes_105 : decode cX7_closes 105 = .ok (.iadd, 1) := dqr0 dqK_96 dqw_cX7_closes_91 14 rfl rfl
theorem dX7_closes_106 : decode cX7_closes 106 = .ok (.iaload, 1) := dqr0 dqK_46 dqw_cX7_closes_91 15 rfl rfl
theorem dX7_closes_107 : decode cX7_closes 107 = .ok (.i2l, 1) := dqr0 dqK_133 dqw_cX7_closes_91 16 rfl rfl
theorem dX7_closes_108 : decode cX7_closes 108 = .ok (.aload_n 0, 1) := dqr0 dqK_42 dqw_cX7_closes_91 17 rfl rfl
theorem dX7_closes_109 : decode cX7_closes 109 = .ok (.getfield 98, 3) := dqr2 dqK_180 dqw_cX7_closes_91 18 rfl rfl rfl rfl rfl
theorem dX7_closes_112 : decode cX7_closes 112 = .ok (.iload 4, 2) := dqr1 dqK_21 dqw_cX7_closes_91 21 rfl rfl rfl
theorem dX7_closes_114 : decode cX7_closes 114 = .ok (.iaload, 1) := dqr0 dqK_46 dqw_cX7_closes_91 23 rfl rfl
theorem dqw_cX7_closes_115 : dqLF cX7_closes 115 [133, 97, 184, 1, 29, 79, 132, 4, 1, 167, 255, 206, 132, 3, 1, 167, 255, 183, 42, 28, 182, 1, 43, 177] := by decide +kernel
theorem dX7_closes_115 : decode cX7_closes 115 = .ok (.i2l, 1) := dqr0 dqK_133 dqw_cX7_closes_115 0 rfl rfl
theorem dX7_closes_116 : decode cX7_closes 116 = .ok (.ladd, 1) := dqr0 dqK_97 dqw_cX7_closes_115 1 rfl rfl
theorem dX7_closes_117 : decode cX7_closes 117 = .ok (.invokestatic 285, 3) := dqr2 dqK_184 dqw_cX7_closes_115 2 rfl rfl rfl rfl rfl
theorem dX7_closes_120 : decode cX7_closes 120 = .ok (.iastore, 1) := dqr0 dqK_79 dqw_cX7_closes_115 5 rfl rfl
theorem dX7_closes_121 : decode cX7_closes 121 = .ok (.iinc 4 1, 3) := dqri dqK_132 dqw_cX7_closes_115 6 rfl rfl rfl rfl (by decide)
theorem dX7_closes_124 : decode cX7_closes 124 = .ok (.goto (-50), 3) := dqrs2 dqK_167 dqw_cX7_closes_115 9 rfl rfl rfl rfl (by decide)
theorem dX7_closes_127 : decode cX7_closes 127 = .ok (.iinc 3 1, 3) := dqri dqK_132 dqw_cX7_closes_115 12 rfl rfl rfl rfl (by decide)
theorem dX7_closes_130 : decode cX7_closes 130 = .ok (.goto (-73), 3) := dqrs2 dqK_167 dqw_cX7_closes_115 15 rfl rfl rfl rfl (by decide)
theorem dX7_closes_133 : decode cX7_closes 133 = .ok (.aload_n 0, 1) := dqr0 dqK_42 dqw_cX7_closes_115 18 rfl rfl
theorem dX7_closes_134 : decode cX7_closes 134 = .ok (.iload_n 2, 1) := dqr0 dqK_28 dqw_cX7_closes_115 19 rfl rfl
theorem dX7_closes_135 : decode cX7_closes 135 = .ok (.invokevirtual 299, 3) := dqr2 dqK_182 dqw_cX7_closes_115 20 rfl rfl rfl rfl rfl
theorem dX7_closes_138 : decode cX7_closes 138 = .ok (.return_, 1) := dqr0 dqK_177 dqw_cX7_closes_115 23 rfl rfl
theorem dqw_cX7_goesBehind_0 : dqLF cX7_goesBehind 0 [3, 61, 28, 17, 2, 113, 162, 0, 27, 42, 180, 0, 98, 28, 42, 180, 0, 86, 17, 2, 113, 27, 104, 28] := by decide +kernel
theorem dX7_goesBehind_0 : decode cX7_goesBehind 0 = .ok (.iconst 0, 1) := dqr0 dqK_3 dqw_cX7_goesBehind_0 0 rfl rfl
theorem dX7_goesBehind_1 : decode cX7_goesBehind 1 = .ok (.istore_n 2, 1) := dqr0 dqK_61 dqw_cX7_goesBehind_0 1 rfl rfl
theorem dX7_goesBehind_2 : decode cX7_goesBehind 2 = .ok (.iload_n 2, 1) := dqr0 dqK_28 dqw_cX7_goesBehind_0 2 rfl rfl
theorem dX7_goesBehind_3 : decode cX7_goesBehind 3 = .ok (.sipush 625, 3) := dqrs2 dqK_17 dqw_cX7_goesBehind_0 3 rfl rfl rfl rfl (by decide)
theorem dX7_goesBehind_6 : decode cX7_goesBehind 6 = .ok (.if_icmp .ge 27, 3) := dqrs2 dqK_162 dqw_cX7_goesBehind_0 6 rfl rfl rfl rfl (by decide)
theorem dX7_goesBehind_9 : decode cX7_goesBehind 9 = .ok (.aload_n 0, 1) := dqr0 dqK_42 dqw_cX7_goesBehind_0 9 rfl rfl
theorem dX7_goesBehind_10 : decode cX7_goesBehind 10 = .ok (.getfield 98, 3) := dqr2 dqK_180 dqw_cX7_goesBehind_0 10 rfl rfl rfl rfl rfl
theorem dX7_goesBehind_13 : decode cX7_goesBehind 13 = .ok (.iload_n 2, 1) := dqr0 dqK_28 dqw_cX7_goesBehind_0 13 rfl rfl
theorem dX7_goesBehind_14 : decode cX7_goesBehind 14 = .ok (.aload_n 0, 1) := dqr0 dqK_42 dqw_cX7_goesBehind_0 14 rfl rfl
theorem dX7_goesBehind_15 : decode cX7_goesBehind 15 = .ok (.getfield 86, 3) := dqr2 dqK_180 dqw_cX7_goesBehind_0 15 rfl rfl rfl rfl rfl
theorem dX7_goesBehind_18 : decode cX7_goesBehind 18 = .ok (.sipush 625, 3) := dqrs2 dqK_17 dqw_cX7_goesBehind_0 18 rfl rfl rfl rfl (by decide)
theorem dX7_goesBehind_21 : decode cX7_goesBehind 21 = .ok (.iload_n 1, 1) := dqr0 dqK_27 dqw_cX7_goesBehind_0 21 rfl rfl
theorem dX7_goesBehind_22 : decode cX7_goesBehind 22 = .ok (.imul, 1) := dqr0 dqK_104 dqw_cX7_goesBehind_0 22 rfl rfl
theorem dX7_goesBehind_23 : decode cX7_goesBehind 23 = .ok (.iload_n 2, 1) := dqr0 dqK_28 dqw_cX7_goesBehind_0 23 rfl rfl
theorem dqw_cX7_goesBehind_24 : dqLF cX7_goesBehind 24 [96, 46, 79, 132, 2, 1, 167, 255, 228, 42, 42, 180, 0, 89, 17, 2, 113, 27, 104, 182, 1, 39, 177] := by decide +kernel
theorem dX7_goesBehind_24 : decode cX7_goesBehind 24 = .ok (.iadd, 1) := dqr0 dqK_96 dqw_cX7_goesBehind_24 0 rfl rfl
theorem dX7_goesBehind_25 : decode cX7_goesBehind 25 = .ok (.iaload, 1) := dqr0 dqK_46 dqw_cX7_goesBehind_24 1 rfl rfl
theorem dX7_goesBehind_26 : decode cX7_goesBehind 26 = .ok (.iastore, 1) := dqr0 dqK_79 dqw_cX7_goesBehind_24 2 rfl rfl
theorem dX7_goesBehind_27 : decode cX7_goesBehind 27 = .ok (.iinc 2 1, 3) := dqri dqK_132 dqw_cX7_goesBehind_24 3 rfl rfl rfl rfl (by decide)
theorem dX7_goesBehind_30 : decode cX7_goesBehind 30 = .ok (.goto (-28), 3) := dqrs2 dqK_167 dqw_cX7_goesBehind_24 6 rfl rfl rfl rfl (by decide)
theorem dX7_goesBehind_33 : decode cX7_goesBehind 33 = .ok (.aload_n 0, 1) := dqr0 dqK_42 dqw_cX7_goesBehind_24 9 rfl rfl
theorem dX7_goesBehind_34 : decode cX7_goesBehind 34 = .ok (.aload_n 0, 1) := dqr0 dqK_42 dqw_cX7_goesBehind_24 10 rfl rfl
theorem dX7_goesBehind_35 : decode cX7_goesBehind 35 = .ok (.getfield 89, 3) := dqr2 dqK_180 dqw_cX7_goesBehind_24 11 rfl rfl rfl rfl rfl
theorem dX7_goesBehind_38 : decode cX7_goesBehind 38 = .ok (.sipush 625, 3) := dqrs2 dqK_17 dqw_cX7_goesBehind_24 14 rfl rfl rfl rfl (by decide)
theorem dX7_goesBehind_41 : decode cX7_goesBehind 41 = .ok (.iload_n 1, 1) := dqr0 dqK_27 dqw_cX7_goesBehind_24 17 rfl rfl
theorem dX7_goesBehind_42 : decode cX7_goesBehind 42 = .ok (.imul, 1) := dqr0 dqK_104 dqw_cX7_goesBehind_24 18 rfl rfl
theorem dX7_goesBehind_43 : decode cX7_goesBehind 43 = .ok (.invokevirtual 295, 3) := dqr2 dqK_182 dqw_cX7_goesBehind_24 19 rfl rfl rfl rfl rfl
theorem dX7_goesBehind_46 : decode cX7_goesBehind 46 = .ok (.return_, 1) := dqr0 dqK_177 dqw_cX7_goesBehind_24 22 rfl rfl
theorem dqw_cX7_findTable_0 : dqLF cX7_findTable 0 [3, 61, 42, 182, 1, 36, 3, 62, 29, 42, 180, 0, 52, 27, 46, 162, 1, 29, 42, 180, 0, 49, 16, 60] := by decide +kernel
theorem dX7_findTable_0 : decode cX7_findTable 0 = .ok (.iconst 0, 1) := dqr0 dqK_3 dqw_cX7_findTable_0 0 rfl rfl
theorem dX7_findTable_1 : decode cX7_findTable 1 = .ok (.istore_n 2, 1) := dqr0 dqK_61 dqw_cX7_findTable_0 1 rfl rfl
theorem dX7_findTable_2 : decode cX7_findTable 2 = .ok (.aload_n 0, 1) := dqr0 dqK_42 dqw_cX7_findTable_0 2 rfl rfl
theorem dX7_findTable_3 : decode cX7_findTable 3 = .ok (.invokevirtual 292, 3) := dqr2 dqK_182 dqw_cX7_findTable_0 3 rfl rfl rfl rfl rfl
theorem dX7_findTable_6 : decode cX7_findTable 6 = .ok (.iconst 0, 1) := dqr0 dqK_3 dqw_cX7_findTable_0 6 rfl rfl
theorem dX7_findTable_7 : decode cX7_findTable 7 = .ok (.istore_n 3, 1) := dqr0 dqK_62 dqw_cX7_findTable_0 7 rfl rfl
theorem dX7_findTable_8 : decode cX7_findTable 8 = .ok (.iload_n 3, 1) := dqr0 dqK_29 dqw_cX7_findTable_0 8 rfl rfl
theorem dX7_findTable_9 : decode cX7_findTable 9 = .ok (.aload_n 0, 1) := dqr0 dqK_42 dqw_cX7_findTable_0 9 rfl rfl
theorem dX7_findTable_10 : decode cX7_findTable 10 = .ok (.getfield 52, 3) := dqr2 dqK_180 dqw_cX7_findTable_0 10 rfl rfl rfl rfl rfl
theorem dX7_findTable_13 : decode cX7_findTable 13 = .ok (.iload_n 1, 1) := dqr0 dqK_27 dqw_cX7_findTable_0 13 rfl rfl
theorem dX7_findTable_14 : decode cX7_findTable 14 = .ok (.iaload, 1) := dqr0 dqK_46 dqw_cX7_findTable_0 14 rfl rfl
theorem dX7_findTable_15 : decode cX7_findTable 15 = .ok (.if_icmp .ge 285, 3) := dqrs2 dqK_162 dqw_cX7_findTable_0 15 rfl rfl rfl rfl (by decide)
theorem dX7_findTable_18 : decode cX7_findTable 18 = .ok (.aload_n 0, 1) := dqr0 dqK_42 dqw_cX7_findTable_0 18 rfl rfl
theorem dX7_findTable_19 : decode cX7_findTable 19 = .ok (.getfield 49, 3) := dqr2 dqK_180 dqw_cX7_findTable_0 19 rfl rfl rfl rfl rfl
theorem dX7_findTable_22 : decode cX7_findTable 22 = .ok (.bipush 60, 2) := dqrs1 dqK_16 dqw_cX7_findTable_0 22 rfl rfl rfl (by decide)
theorem dqw_cX7_findTable_24 : dqLF cX7_findTable 24 [27, 104, 29, 96, 46, 54, 4, 21, 4, 184, 0, 214, 153, 0, 15, 42, 21, 4, 16, 97, 100, 182, 1, 47] := by decide +kernel
theorem dX7_findTable_24 : decode cX7_findTable 24 = .ok (.iload_n 1, 1) := dqr0 dqK_27 dqw_cX7_findTable_24 0 rfl rfl
theorem dX7_findTable_25 : decode cX7_findTable 25 = .ok (.imul, 1) := dqr0 dqK_104 dqw_cX7_findTable_24 1 rfl rfl
theorem dX7_findTable_26 : decode cX7_findTable 26 = .ok (.iload_n 3, 1) := dqr0 dqK_29 dqw_cX7_findTable_24 2 rfl rfl
theorem dX7_findTable_27 : decode cX7_findTable 27 = .ok (.iadd, 1) := dqr0 dqK_96 dqw_cX7_findTable_24 3 rfl rfl
theorem dX7_findTable_28 : decode cX7_findTable 28 = .ok (.iaload, 1) := dqr0 dqK_46 dqw_cX7_findTable_24 4 rfl rfl
theorem dX7_findTable_29 : decode cX7_findTable 29 = .ok (.istore 4, 2) := dqr1 dqK_54 dqw_cX7_findTable_24 5 rfl rfl rfl
theorem dX7_findTable_31 : decode cX7_findTable 31 = .ok (.iload 4, 2) := dqr1 dqK_21 dqw_cX7_findTable_24 7 rfl rfl rfl
theorem dX7_findTable_33 : decode cX7_findTable 33 = .ok (.invokestatic 214, 3) := dqr2 dqK_184 dqw_cX7_findTable_24 9 rfl rfl rfl rfl rfl
theorem dX7_findTable_36 : decode cX7_findTable 36 = .ok (.ifCond .eq 15, 3) := dqrs2 dqK_153 dqw_cX7_findTable_24 12 rfl rfl rfl rfl (by decide)
theorem dX7_findTable_39 : decode cX7_findTable 39 = .ok (.aload_n 0, 1) := dqr0 dqK_42 dqw_cX7_findTable_24 15 rfl rfl
theorem dX7_findTable_40 : decode cX7_findTable 40 = .ok (.iload 4, 2) := dqr1 dqK_21 dqw_cX7_findTable_24 16 rfl rfl rfl
theorem dX7_findTable_42 : decode cX7_findTable 42 = .ok (.bipush 97, 2) := dqrs1 dqK_16 dqw_cX7_findTable_24 18 rfl rfl rfl (by decide)
theorem dX7_findTable_44 : decode cX7_findTable 44 = .ok (.isub, 1) := dqr0 dqK_100 dqw_cX7_findTable_24 20 rfl rfl
theorem dX7_findTable_45 : decode cX7_findTable 45 = .ok (.invokevirtual 303, 3) := dqr2 dqK_182 dqw_cX7_findTable_24 21 rfl rfl rfl rfl rfl
theorem dqw_cX7_findTable_48 : dqLF cX7_findTable 48 [167, 0, 246, 21, 4, 184, 0, 217, 153, 0, 23, 42, 42, 180, 0, 83, 17, 2, 113, 21, 4, 16, 65, 100] := by decide +kernel
theorem dX7_findTable_48 : decode cX7_findTable 48 = .ok (.goto 246, 3) := dqrs2 dqK_167 dqw_cX7_findTable_48 0 rfl rfl rfl rfl (by decide)
theorem dX7_findTable_51 : decode cX7_findTable 51 = .ok (.iload 4, 2) := dqr1 dqK_21 dqw_cX7_findTable_48 3 rfl rfl rfl
theorem dX7_findTable_53 : decode cX7_findTable 53 = .ok (.invokestatic 217, 3) := dqr2 dqK_184 dqw_cX7_findTable_48 5 rfl rfl rfl rfl rfl
theorem dX7_findTable_56 : decode cX7_findTable 56 = .ok (.ifCond .eq 23, 3) := dqrs2 dqK_153 dqw_cX7_findTable_48 8 rfl rfl rfl rfl (by decide)
theorem dX7_findTable_59 : decode cX7_findTable 59 = .ok (.aload_n 0, 1) := dqr0 dqK_42 dqw_cX7_findTable_48 11 rfl rfl
theorem dX7_findTable_60 : decode cX7_findTable 60 = .ok (.aload_n 0, 1) := dqr0 dqK_42 dqw_cX7_findTable_48 12 rfl rfl
theorem dX7_findTable_61 : decode cX7_findTable 61 = .ok (.getfield 83, 3) := dqr2 dqK_180 dqw_cX7_findTable_48 13 rfl rfl rfl rfl rfl
theorem dX7_findTable_64 : decode cX7_findTable 64 = .ok (.sipush 625, 3) := dqrs2 dqK_17 dqw_cX7_findTable_48 16 rfl rfl rfl rfl (by decide)
theorem dX7_findTable_67 : decode cX7_findTable 67 = .ok (.iload 4, 2) := dqr1 dqK_21 dqw_cX7_findTable_48 19 rfl rfl rfl
theorem dX7_findTable_69 : decode cX7_findTable 69 = .ok (.bipush 65, 2) := dqrs1 dqK_16 dqw_cX7_findTable_48 21 rfl rfl rfl (by decide)
theorem dX7_findTable_71 : decode cX7_findTable 71 = .ok (.isub, 1) := dqr0 dqK_100 dqw_cX7_findTable_48 23 rfl rfl
theorem dqw_cX7_findTable_72 : dqLF cX7_findTable 72 [104, 182, 1, 39, 167, 0, 218, 21, 4, 16, 91, 159, 0, 17, 21, 4, 16, 123, 159, 0, 10, 21, 4] := by decide +kernel
theorem dX7_findTable_72 : decode cX7_findTable 72 = .ok (.imul, 1) := dqr0 dqK_104 dqw_cX7_findTable_72 0 rfl rfl
theorem dX7_findTable_73 : decode cX7_findTable 73 = .ok (.invokevirtual 295, 3) := dqr2 dqK_182 dqw_cX7_findTable_72 1 rfl rfl rfl rfl rfl
theorem dX7_findTable_76 : decode cX7_findTable 76 = .ok (.goto 218, 3) := dqrs2 dqK_167 dqw_cX7_findTable_72 4 rfl rfl rfl rfl (by decide)
theorem dX7_findTable_79 : decode cX7_findTable 79 = .ok (.iload 4, 2) := dqr1 dqK_21 dqw_cX7_findTable_72 7 rfl rfl rfl
theorem dX7_findTable_81 : decode cX7_findTable 81 = .ok (.bipush 91, 2) := dqrs1 dqK_16 dqw_cX7_findTable_72 9 rfl rfl rfl (by decide)
theorem dX7_findTable_83 : decode cX7_findTable 83 = .ok (.if_icmp .eq 17, 3) := dqrs2 dqK_159 dqw_cX7_findTable_72 11 rfl rfl rfl rfl (by decide)
theorem dX7_findTable_86 : decode cX7_findTable 86 = .ok (.iload 4, 2) := dqr1 dqK_21 dqw_cX7_findTable_72 14 rfl rfl rfl
theorem dX7_findTable_88 : decode cX7_findTable 88 = .ok (.bipush 123, 2) := dqrs1 dqK_16 dqw_cX7_findTable_72 16 rfl rfl rfl (by decide)
theorem dX7_findTable_90 : decode cX7_findTable 90 = .ok (.if_icmp .eq 10, 3) := dqrs2 dqK_159 dqw_cX7_findTable_72 18 rfl rfl rfl rfl (by decide)
theorem dX7_findTable_93 : decode cX7_findTable 93 = .ok (.iload 4, 2) := dqr1 dqK_21 dqw_cX7_findTable_72 21 rfl rfl rfl
theorem dqw_cX7_findTable_95 : dqLF cX7_findTable 95 [16, 40, 160, 0, 50, 3, 54, 5, 21, 5, 17, 2, 113, 162, 0, 29, 42, 180, 0, 86, 17, 2, 113, 28] := by decide +kernel
theorem dX7_findTable_95 : decode cX7_findTable 95 = .ok (.bipush 40, 2) := dqrs1 dqK_16 dqw_cX7_findTable_95 0 rfl rfl rfl (by decide)
theorem dX7_findTable_97 : decode cX7_findTable 97 = .ok (.if_icmp .ne 50, 3) := dqrs2 dqK_160 dqw_cX7_findTable_95 2 rfl rfl rfl rfl (by decide)
theorem dX7_findTable_100 : decode cX7_findTable 100 = .ok (.iconst 0, 1) := dqr0 dqK_3 dqw_cX7_findTable_95 5 rfl rfl
theorem dX7_findTable_101 : decode cX7_findTable 101 = .ok (.istore 5, 2) := dqr1 dqK_54 dqw_cX7_findTable_95 6 rfl rfl rfl
theorem dX7_findTable_103 : decode cX7_findTable 103 = .ok (.iload 5, 2) := dqr1 dqK_21 dqw_cX7_findTable_95 8 rfl rfl rfl
theorem dX7_findTable_105 : decode cX7_findTable 105 = .ok (.sipush 625, 3) := dqrs2 dqK_17 dqw_cX7_findTable_95 10 rfl rfl rfl rfl (by decide)
theorem dX7_findTable_108 : decode cX7_findTable 108 = .ok (.if_icmp .ge 29, 3) := dqrs2 dqK_162 dqw_cX7_findTable_95 13 rfl rfl rfl rfl (by decide)
theorem dX7_findTable_111 : decode cX7_findTable 111 = .ok (.aload_n 0, 1) := dqr0 dqK_42 dqw_cX7_findTable_95 16 rfl rfl
theorem dX7_findTable_112 : decode cX7_findTable 112 = .ok (.getfield 86, 3) := dqr2 dqK_180 dqw_cX7_findTable_95 17 rfl rfl rfl rfl rfl
theorem dX7_findTable_115 : decode cX7_findTable 115 = .ok (.sipush 625, 3) := dqrs2 dqK_17 dqw_cX7_findTable_95 20 rfl rfl rfl rfl (by decide)
theorem dX7_findTable_118 : decode cX7_findTable 118 = .ok (.iload_n 2, 1) := dqr0 dqK_28 dqw_cX7_findTable_95 23 rfl rfl
theorem dqw_cX7_findTable_119 : dqLF cX7_findTable 119 [104, 21, 5, 96, 42, 180, 0, 98, 21, 5, 46, 79, 132, 5, 1, 167, 255, 225, 132, 2, 1, 42] := by decide +kernel
theorem dX7_findTable_119 : decode cX7_findTable 119 = .ok (.imul, 1) := dqr0 dqK_104 dqw_cX7_findTable_119 0 rfl rfl
theorem dX7_findTable_120 : decode cX7_findTable 120 = .ok (.iload 5, 2) := dqr1 dqK_21 dqw_cX7_findTable_119 1 rfl rfl rfl
theorem dX7_findTable_122 : decode cX7_findTable 122 = .ok (.iadd, 1) := dqr0 dqK_96 dqw_cX7_findTable_119 3 rfl rfl
theorem dX7_findTable_123 : decode cX7_findTable 123 = .ok (.aload_n 0, 1) := dqr0 dqK_42 dqw_cX7_findTable_119 4 rfl rfl
theorem dX7_findTable_124 : decode cX7_findTable 124 = .ok (.getfield 98, 3) := dqr2 dqK_180 dqw_cX7_findTable_119 5 rfl rfl rfl rfl rfl
theorem dX7_findTable_127 : decode cX7_findTable 127 = .ok (.iload 5, 2) := dqr1 dqK_21 dqw_cX7_findTable_119 8 rfl rfl rfl
theorem dX7_findTable_129 : decode cX7_findTable 129 = .ok (.iaload, 1) := dqr0 dqK_46 dqw_cX7_findTable_119 10 rfl rfl
theorem dX7_findTable_130 : decode cX7_findTable 130 = .ok (.iastore, 1) := dqr0 dqK_79 dqw_cX7_findTable_119 11 rfl rfl
theorem dX7_findTable_131 : decode cX7_findTable 131 = .ok (.iinc 5 1, 3) := dqri dqK_132 dqw_cX7_findTable_119 12 rfl rfl rfl rfl (by decide)
theorem dX7_findTable_134 : decode cX7_findTable 134 = .ok (.goto (-31), 3) := dqrs2 dqK_167 dqw_cX7_findTable_119 15 rfl rfl rfl rfl (by decide)
theorem dX7_findTable_137 : decode cX7_findTable 137 = .ok (.iinc 2 1, 3) := dqri dqK_132 dqw_cX7_findTable_119 18 rfl rfl rfl rfl (by decide)
theorem dX7_findTable_140 : decode cX7_findTable 140 = .ok (.aload_n 0, 1) := dqr0 dqK_42 dqw_cX7_findTable_119 21 rfl rfl
theorem dqw_cX7_findTable_141 : dqLF cX7_findTable 141 [182, 1, 36, 167, 0, 150, 21, 4, 16, 124, 160, 0, 49, 3, 54, 5, 21, 5, 17, 2, 113, 162, 0, 31] := by decide +kernel
theorem dX7_findTable_141 : decode cX7_findTable 141 = .ok (.invokevirtual 292, 3) := dqr2 dqK_182 dqw_cX7_findTable_141 0 rfl rfl rfl rfl rfl
theorem dX7_findTable_144 : decode cX7_findTable 144 = .ok (.goto 150, 3) := dqrs2 dqK_167 dqw_cX7_findTable_141 3 rfl rfl rfl rfl (by decide)
theorem dX7_findTable_147 : decode cX7_findTable 147 = .ok (.iload 4, 2) := dqr1 dqK_21 dqw_cX7_findTable_141 6 rfl rfl rfl
theorem dX7_findTable_149 : decode cX7_findTable 149 = .ok (.bipush 124, 2) := dqrs1 dqK_16 dqw_cX7_findTable_141 8 rfl rfl rfl (by decide)
theorem dX7_findTable_151 : decode cX7_findTable 151 = .ok (.if_icmp .ne 49, 3) := dqrs2 dqK_160 dqw_cX7_findTable_141 10 rfl rfl rfl rfl (by decide)
theorem dX7_findTable_154 : decode cX7_findTable 154 = .ok (.iconst 0, 1) := dqr0 dqK_3 dqw_cX7_findTable_141 13 rfl rfl
theorem dX7_findTable_155 : decode cX7_findTable 155 = .ok (.istore 5, 2) := dqr1 dqK_54 dqw_cX7_findTable_141 14 rfl rfl rfl
theorem dX7_findTable_157 : decode cX7_findTable 157 = .ok (.iload 5, 2) := dqr1 dqK_21 dqw_cX7_findTable_141 16 rfl rfl rfl
theorem dX7_findTable_159 : decode cX7_findTable 159 = .ok (.sipush 625, 3) := dqrs2 dqK_17 dqw_cX7_findTable_141 18 rfl rfl rfl rfl (by decide)
theorem dX7_findTable_162 : decode cX7_findTable 162 = .ok (.if_icmp .ge 31, 3) := dqrs2 dqK_162 dqw_cX7_findTable_141 21 rfl rfl rfl rfl (by decide)
theorem dqw_cX7_findTable_165 : dqLF cX7_findTable 165 [42, 180, 0, 89, 17, 2, 113, 28, 4, 100, 104, 21, 5, 96, 42, 180, 0, 98, 21, 5, 46, 79] := by decide +kernel
theorem dX7_findTable_165 : decode cX7_findTable 165 = .ok (.aload_n 0, 1) := dqr0 dqK_42 dqw_cX7_findTable_165 0 rfl rfl
theorem dX7_findTable_166 : decode cX7_findTable 166 = .ok (.getfield 89, 3) := dqr2 dqK_180 dqw_cX7_findTable_165 1 rfl rfl rfl rfl rfl
theorem dX7_findTable_169 : decode cX7_findTable 169 = .ok (.sipush 625, 3) := dqrs2 dqK_17 dqw_cX7_findTable_165 4 rfl rfl rfl rfl (by decide)
theorem dX7_findTable_172 : decode cX7_findTable 172 = .ok (.iload_n 2, 1) := dqr0 dqK_28 dqw_cX7_findTable_165 7 rfl rfl
theorem dX7_findTable_173 : decode cX7_findTable 173 = .ok (.iconst 1, 1) := dqr0 dqK_4 dqw_cX7_findTable_165 8 rfl rfl
theorem dX7_findTable_174 : decode cX7_findTable 174 = .ok (.isub, 1) := dqr0 dqK_100 dqw_cX7_findTable_165 9 rfl rfl
theorem dX7_findTable_175 : decode cX7_findTable 175 = .ok (.imul, 1) := dqr0 dqK_104 dqw_cX7_findTable_165 10 rfl rfl
theorem dX7_findTable_176 : decode cX7_findTable 176 = .ok (.iload 5, 2) := dqr1 dqK_21 dqw_cX7_findTable_165 11 rfl rfl rfl
theorem dX7_findTable_178 : decode cX7_findTable 178 = .ok (.iadd, 1) := dqr0 dqK_96 dqw_cX7_findTable_165 13 rfl rfl
theorem dX7_findTable_179 : decode cX7_findTable 179 = .ok (.aload_n 0, 1) := dqr0 dqK_42 dqw_cX7_findTable_165 14 rfl rfl
theorem dX7_findTable_180 : decode cX7_findTable 180 = .ok (.getfield 98, 3) := dqr2 dqK_180 dqw_cX7_findTable_165 15 rfl rfl rfl rfl rfl
theorem dX7_findTable_183 : decode cX7_findTable 183 = .ok (.iload 5, 2) := dqr1 dqK_21 dqw_cX7_findTable_165 18 rfl rfl rfl
theorem dX7_findTable_185 : decode cX7_findTable 185 = .ok (.iaload, 1) := dqr0 dqK_46 dqw_cX7_findTable_165 20 rfl rfl
theorem dX7_findTable_186 : decode cX7_findTable 186 = .ok (.iastore, 1) := dqr0 dqK_79 dqw_cX7_findTable_165 21 rfl rfl
theorem dqw_cX7_findTable_187 : dqLF cX7_findTable 187 [132, 5, 1, 167, 255, 223, 42, 182, 1, 36, 167, 0, 97, 132, 2, 255, 21, 4, 16, 41, 159, 0, 26, 42] := by decide +kernel
theorem dX7_findTable_187 : decode cX7_findTable 187 = .ok (.iinc 5 1, 3) := dqri dqK_132 dqw_cX7_findTable_187 0 rfl rfl rfl rfl (by decide)
theorem dX7_findTable_190 : decode cX7_findTable 190 = .ok (.goto (-33), 3) := dqrs2 dqK_167 dqw_cX7_findTable_187 3 rfl rfl rfl rfl (by decide)
theorem dX7_findTable_193 : decode cX7_findTable 193 = .ok (.aload_n 0, 1) := dqr0 dqK_42 dqw_cX7_findTable_187 6 rfl rfl
theorem dX7_findTable_194 : decode cX7_findTable 194 = .ok (.invokevirtual 292, 3) := dqr2 dqK_182 dqw_cX7_findTable_187 7 rfl rfl rfl rfl rfl
theorem dX7_findTable_197 : decode cX7_findTable 197 = .ok (.goto 97, 3) := dqrs2 dqK_167 dqw_cX7_findTable_187 10 rfl rfl rfl rfl (by decide)
theorem dX7_findTable_200 : decode cX7_findTable 200 = .ok (.iinc 2 (-1), 3) := dqri dqK_132 dqw_cX7_findTable_187 13 rfl rfl rfl rfl (by decide)
theorem dX7_findTable_203 : decode cX7_findTable 203 = .ok (.iload 4, 2) := dqr1 dqK_21 dqw_cX7_findTable_187 16 rfl rfl rfl
theorem dX7_findTable_205 : decode cX7_findTable 205 = .ok (.bipush 41, 2) := dqrs1 dqK_16 dqw_cX7_findTable_187 18 rfl rfl rfl (by decide)
theorem dX7_findTable_207 : decode cX7_findTable 207 = .ok (.if_icmp .eq 26, 3) := dqrs2 dqK_159 dqw_cX7_findTable_187 20 rfl rfl rfl rfl (by decide)
theorem dX7_findTable_210 : decode cX7_findTable 210 = .ok (.aload_n 0, 1) := dqr0 dqK_42 dqw_cX7_findTable_187 23 rfl rfl
theorem dqw_cX7_findTable_211 : dqLF cX7_findTable 211 [21, 4, 16, 93, 160, 0, 7, 4, 167, 0, 7, 42, 180, 0, 61, 28, 182, 1, 50, 167, 0, 64, 3] := by decide +kernel
theorem dX7_findTable_211 : decode cX7_findTable 211 = .ok (.iload 4, 2) := dqr1 dqK_21 dqw_cX7_findTable_211 0 rfl rfl rfl
theorem dX7_findTable_213 : decode cX7_findTable 213 = .ok (.bipush 93, 2) := dqrs1 dqK_16 dqw_cX7_findTable_211 2 rfl rfl rfl (by decide)
theorem dX7_findTable_215 : decode cX7_findTable 215 = .ok (.if_icmp .ne 7, 3) := dqrs2 dqK_160 dqw_cX7_findTable_211 4 rfl rfl rfl rfl (by decide)
theorem dX7_findTable_218 : decode cX7_findTable 218 = .ok (.iconst 1, 1) := dqr0 dqK_4 dqw_cX7_findTable_211 7 rfl rfl
theorem dX7_findTable_219 : decode cX7_findTable 219 = .ok (.goto 7, 3) := dqrs2 dqK_167 dqw_cX7_findTable_211 8 rfl rfl rfl rfl (by decide)
theorem dX7_findTable_222 : decode cX7_findTable 222 = .ok (.aload_n 0, 1) := dqr0 dqK_42 dqw_cX7_findTable_211 11 rfl rfl
theorem dX7_findTable_223 : decode cX7_findTable 223 = .ok (.getfield 61, 3) := dqr2 dqK_180 dqw_cX7_findTable_211 12 rfl rfl rfl rfl rfl
theorem dX7_findTable_226 : decode cX7_findTable 226 = .ok (.iload_n 2, 1) := dqr0 dqK_28 dqw_cX7_findTable_211 15 rfl rfl
theorem dX7_findTable_227 : decode cX7_findTable 227 = .ok (.invokevirtual 306, 3) := dqr2 dqK_182 dqw_cX7_findTable_211 16 rfl rfl rfl rfl rfl
theorem dX7_findTable_230 : decode cX7_findTable 230 = .ok (.goto 64, 3) := dqrs2 dqK_167 dqw_cX7_findTable_211 19 rfl rfl rfl rfl (by decide)
theorem dX7_findTable_233 : decode cX7_findTable 233 = .ok (.iconst 0, 1) := dqr0 dqK_3 dqw_cX7_findTable_211 22 rfl rfl
theorem dqw_cX7_findTable_234 : dqLF cX7_findTable 234 [54, 5, 21, 5, 17, 2, 113, 162, 0, 48, 42, 180, 0, 89, 17, 2, 113, 28, 104, 21, 5, 96, 42] := by decide +kernel
theorem dX7_findTable_234 : decode cX7_findTable 234 = .ok (.istore 5, 2) := dqr1 dqK_54 dqw_cX7_findTable_234 0 rfl rfl rfl
theorem dX7_findTable_236 : decode cX7_findTable 236 = .ok (.iload 5, 2) := dqr1 dqK_21 dqw_cX7_findTable_234 2 rfl rfl rfl
theorem dX7_findTable_238 : decode cX7_findTable 238 = .ok (.sipush 625, 3) := dqrs2 dqK_17 dqw_cX7_findTable_234 4 rfl rfl rfl rfl (by decide)
theorem dX7_findTable_241 : decode cX7_findTable 241 = .ok (.if_icmp .ge 48, 3) := dqrs2 dqK_162 dqw_cX7_findTable_234 7 rfl rfl rfl rfl (by decide)
theorem dX7_findTable_244 : decode cX7_findTable 244 = .ok (.aload_n 0, 1) := dqr0 dqK_42 dqw_cX7_findTable_234 10 rfl rfl
theorem dX7_findTable_245 : decode cX7_findTable 245 = .ok (.getfield 89, 3) := dqr2 dqK_180 dqw_cX7_findTable_234 11 rfl rfl rfl rfl rfl
theorem dX7_findTable_248 : decode cX7_findTable 248 = .ok (.sipush 625, 3) := dqrs2 dqK_17 dqw_cX7_findTable_234 14 rfl rfl rfl rfl (by decide)
theorem dX7_findTable_251 : decode cX7_findTable 251 = .ok (.iload_n 2, 1) := dqr0 dqK_28 dqw_cX7_findTable_234 17 rfl rfl
theorem dX7_findTable_252 : decode cX7_findTable 252 = .ok (.imul, 1) := dqr0 dqK_104 dqw_cX7_findTable_234 18 rfl rfl
theorem dX7_findTable_253 : decode cX7_findTable 253 = .ok (.iload 5, 2) := dqr1 dqK_21 dqw_cX7_findTable_234 19 rfl rfl rfl
theorem dX7_findTable_255 : decode cX7_findTable 255 = .ok (.iadd, 1) := dqr0 dqK_96 dqw_cX7_findTable_234 21 rfl rfl
theorem dX7_findTable_256 : decode cX7_findTable 256 = .ok (.aload_n 0, 1) := dqr0 dqK_42 dqw_cX7_findTable_234 22 rfl rfl
theorem dqw_cX7_findTable_257 : dqLF cX7_findTable 257 [180, 0, 89, 17, 2, 113, 28, 104, 21, 5, 96, 46, 133, 42, 180, 0, 98, 21, 5, 46, 133, 97] := by decide +kernel
theorem dX7_findTable_257 : decode cX7_findTable 257 = .ok (.getfield 89, 3) := dqr2 dqK_180 dqw_cX7_findTable_257 0 rfl rfl rfl rfl rfl
theorem dX7_findTable_260 : decode cX7_findTable 260 = .ok (.sipush 625, 3) := dqrs2 dqK_17 dqw_cX7_findTable_257 3 rfl rfl rfl rfl (by decide)
theorem dX7_findTable_263 : decode cX7_findTable 263 = .ok (.iload_n 2, 1) := dqr0 dqK_28 dqw_cX7_findTable_257 6 rfl rfl
theorem dX7_findTable_264 : decode cX7_findTable 264 = .ok (.imul, 1) := dqr0 dqK_104 dqw_cX7_findTable_257 7 rfl rfl
theorem dX7_findTable_265 : decode cX7_findTable 265 = .ok (.iload 5, 2) := dqr1 dqK_21 dqw_cX7_findTable_257 8 rfl rfl rfl
theorem dX7_findTable_267 : decode cX7_findTable 267 = .ok (.iadd, 1) := dqr0 dqK_96 dqw_cX7_findTable_257 10 rfl rfl
theorem dX7_findTable_268 : decode cX7_findTable 268 = .ok (.iaload, 1) := dqr0 dqK_46 dqw_cX7_findTable_257 11 rfl rfl
theorem dX7_findTable_269 : decode cX7_findTable 269 = .ok (.i2l, 1) := dqr0 dqK_133 dqw_cX7_findTable_257 12 rfl rfl
theorem dX7_findTable_270 : decode cX7_findTable 270 = .ok (.aload_n 0, 1) := dqr0 dqK_42 dqw_cX7_findTable_257 13 rfl rfl
theorem dX7_findTable_271 : decode cX7_findTable 271 = .ok (.getfield 98, 3) := dqr2 dqK_180 dqw_cX7_findTable_257 14 rfl rfl rfl rfl rfl
theorem dX7_findTable_274 : decode cX7_findTable 274 = .ok (.iload 5, 2) := dqr1 dqK_21 dqw_cX7_findTable_257 17 rfl rfl rfl
theorem dX7_findTable_276 : decode cX7_findTable 276 = .ok (.iaload, 1) := dqr0 dqK_46 dqw_cX7_findTable_257 19 rfl rfl
theorem dX7_findTable_277 : decode cX7_findTable 277 = .ok (.i2l, 1) := dqr0 dqK_133 dqw_cX7_findTable_257 20 rfl rfl
theorem dX7_findTable_278 : decode cX7_findTable 278 = .ok (.ladd, 1) := dqr0 dqK_97 dqw_cX7_findTable_257 21 rfl rfl
theorem dqw_cX7_findTable_279 : dqLF cX7_findTable 279 [184, 1, 29, 79, 132, 5, 1, 167, 255, 206, 42, 28, 182, 1, 43, 132, 3, 1, 167, 254, 223, 3, 62, 29] := by decide +kernel
theorem dX7_findTable_279 : decode cX7_findTable 279 = .ok (.invokestatic 285, 3) := dqr2 dqK_184 dqw_cX7_findTable_279 0 rfl rfl rfl rfl rfl
theorem dX7_findTable_282 : decode cX7_findTable 282 = .ok (.iastore, 1) := dqr0 dqK_79 dqw_cX7_findTable_279 3 rfl rfl
theorem dX7_findTable_283 : decode cX7_findTable 283 = .ok (.iinc 5 1, 3) := dqri dqK_132 dqw_cX7_findTable_279 4 rfl rfl rfl rfl (by decide)
theorem dX7_findTable_286 : decode cX7_findTable 286 = .ok (.goto (-50), 3) := dqrs2 dqK_167 dqw_cX7_findTable_279 7 rfl rfl rfl rfl (by decide)
theorem dX7_findTable_289 : decode cX7_findTable 289 = .ok (.aload_n 0, 1) := dqr0 dqK_42 dqw_cX7_findTable_279 10 rfl rfl
theorem dX7_findTable_290 : decode cX7_findTable 290 = .ok (.iload_n 2, 1) := dqr0 dqK_28 dqw_cX7_findTable_279 11 rfl rfl
theorem dX7_findTable_291 : decode cX7_findTable 291 = .ok (.invokevirtual 299, 3) := dqr2 dqK_182 dqw_cX7_findTable_279 12 rfl rfl rfl rfl rfl
theorem dX7_findTable_294 : decode cX7_findTable 294 = .ok (.iinc 3 1, 3) := dqri dqK_132 dqw_cX7_findTable_279 15 rfl rfl rfl rfl (by decide)
theorem dX7_findTable_297 : decode cX7_findTable 297 = .ok (.goto (-289), 3) := dqrs2 dqK_167 dqw_cX7_findTable_279 18 rfl rfl rfl rfl (by decide)
theorem dX7_findTable_300 : decode cX7_findTable 300 = .ok (.iconst 0, 1) := dqr0 dqK_3 dqw_cX7_findTable_279 21 rfl rfl
theorem dX7_findTable_301 : decode cX7_findTable 301 = .ok (.istore_n 3, 1) := dqr0 dqK_62 dqw_cX7_findTable_279 22 rfl rfl
theorem dX7_findTable_302 : decode cX7_findTable 302 = .ok (.iload_n 3, 1) := dqr0 dqK_29 dqw_cX7_findTable_279 23 rfl rfl
theorem dqw_cX7_findTable_303 : dqLF cX7_findTable 303 [17, 2, 113, 162, 0, 27, 42, 180, 0, 83, 17, 2, 113, 27, 104, 29, 96, 42, 180, 0, 98, 29, 46, 79] := by decide +kernel
theorem dX7_findTable_303 : decode cX7_findTable 303 = .ok (.sipush 625, 3) := dqrs2 dqK_17 dqw_cX7_findTable_303 0 rfl rfl rfl rfl (by decide)
theorem dX7_findTable_306 : decode cX7_findTable 306 = .ok (.if_icmp .ge 27, 3) := dqrs2 dqK_162 dqw_cX7_findTable_303 3 rfl rfl rfl rfl (by decide)
theorem dX7_findTable_309 : decode cX7_findTable 309 = .ok (.aload_n 0, 1) := dqr0 dqK_42 dqw_cX7_findTable_303 6 rfl rfl
theorem dX7_findTable_310 : decode cX7_findTable 310 = .ok (.getfield 83, 3) := dqr2 dqK_180 dqw_cX7_findTable_303 7 rfl rfl rfl rfl rfl
theorem dX7_findTable_313 : decode cX7_findTable 313 = .ok (.sipush 625, 3) := dqrs2 dqK_17 dqw_cX7_findTable_303 10 rfl rfl rfl rfl (by decide)
theorem dX7_findTable_316 : decode cX7_findTable 316 = .ok (.iload_n 1, 1) := dqr0 dqK_27 dqw_cX7_findTable_303 13 rfl rfl
theorem dX7_findTable_317 : decode cX7_findTable 317 = .ok (.imul, 1) := dqr0 dqK_104 dqw_cX7_findTable_303 14 rfl rfl
theorem dX7_findTable_318 : decode cX7_findTable 318 = .ok (.iload_n 3, 1) := dqr0 dqK_29 dqw_cX7_findTable_303 15 rfl rfl
theorem dX7_findTable_319 : decode cX7_findTable 319 = .ok (.iadd, 1) := dqr0 dqK_96 dqw_cX7_findTable_303 16 rfl rfl
theorem dX7_findTable_320 : decode cX7_findTable 320 = .ok (.aload_n 0, 1) := dqr0 dqK_42 dqw_cX7_findTable_303 17 rfl rfl
theorem dX7_findTable_321 : decode cX7_findTable 321 = .ok (.getfield 98, 3) := dqr2 dqK_180 dqw_cX7_findTable_303 18 rfl rfl rfl rfl rfl
theorem dX7_findTable_324 : decode cX7_findTable 324 = .ok (.iload_n 3, 1) := dqr0 dqK_29 dqw_cX7_findTable_303 21 rfl rfl
theorem dX7_findTable_325 : decode cX7_findTable 325 = .ok (.iaload, 1) := dqr0 dqK_46 dqw_cX7_findTable_303 22 rfl rfl
theorem dX7_findTable_326 : decode cX7_findTable 326 = .ok (.iastore, 1) := dqr0 dqK_79 dqw_cX7_findTable_303 23 rfl rfl
theorem dqw_cX7_findTable_327 : dqLF cX7_findTable 327 [132, 3, 1, 167, 255, 228, 177] := by decide +kernel
theorem dX7_findTable_327 : decode cX7_findTable 327 = .ok (.iinc 3 1, 3) := dqri dqK_132 dqw_cX7_findTable_327 0 rfl rfl rfl rfl (by decide)
theorem dX7_findTable_330 : decode cX7_findTable 330 = .ok (.goto (-28), 3) := dqrs2 dqK_167 dqw_cX7_findTable_327 3 rfl rfl rfl rfl (by decide)
theorem dX7_findTable_333 : decode cX7_findTable 333 = .ok (.return_, 1) := dqr0 dqK_177 dqw_cX7_findTable_327 6 rfl rfl
theorem dqw_cX7_runsOf_0 : dqLF cX7_runsOf 0 [4, 61, 28, 42, 180, 0, 232, 163, 0, 48, 3, 62, 29, 16, 8, 162, 0, 34, 42, 180, 0, 55, 29, 46] := by decide +kernel
theorem dX7_runsOf_0 : decode cX7_runsOf 0 = .ok (.iconst 1, 1) := dqr0 dqK_4 dqw_cX7_runsOf_0 0 rfl rfl
theorem dX7_runsOf_1 : decode cX7_runsOf 1 = .ok (.istore_n 2, 1) := dqr0 dqK_61 dqw_cX7_runsOf_0 1 rfl rfl
theorem dX7_runsOf_2 : decode cX7_runsOf 2 = .ok (.iload_n 2, 1) := dqr0 dqK_28 dqw_cX7_runsOf_0 2 rfl rfl
theorem dX7_runsOf_3 : decode cX7_runsOf 3 = .ok (.aload_n 0, 1) := dqr0 dqK_42 dqw_cX7_runsOf_0 3 rfl rfl
theorem dX7_runsOf_4 : decode cX7_runsOf 4 = .ok (.getfield 232, 3) := dqr2 dqK_180 dqw_cX7_runsOf_0 4 rfl rfl rfl rfl rfl
theorem dX7_runsOf_7 : decode cX7_runsOf 7 = .ok (.if_icmp .gt 48, 3) := dqrs2 dqK_163 dqw_cX7_runsOf_0 7 rfl rfl rfl rfl (by decide)
theorem dX7_runsOf_10 : decode cX7_runsOf 10 = .ok (.iconst 0, 1) := dqr0 dqK_3 dqw_cX7_runsOf_0 10 rfl rfl
theorem dX7_runsOf_11 : decode cX7_runsOf 11 = .ok (.istore_n 3, 1) := dqr0 dqK_62 dqw_cX7_runsOf_0 11 rfl rfl
theorem dX7_runsOf_12 : decode cX7_runsOf 12 = .ok (.iload_n 3, 1) := dqr0 dqK_29 dqw_cX7_runsOf_0 12 rfl rfl
theorem dX7_runsOf_13 : decode cX7_runsOf 13 = .ok (.bipush 8, 2) := dqrs1 dqK_16 dqw_cX7_runsOf_0 13 rfl rfl rfl (by decide)
theorem dX7_runsOf_15 : decode cX7_runsOf 15 = .ok (.if_icmp .ge 34, 3) := dqrs2 dqK_162 dqw_cX7_runsOf_0 15 rfl rfl rfl rfl (by decide)
theorem dX7_runsOf_18 : decode cX7_runsOf 18 = .ok (.aload_n 0, 1) := dqr0 dqK_42 dqw_cX7_runsOf_0 18 rfl rfl
theorem dX7_runsOf_19 : decode cX7_runsOf 19 = .ok (.getfield 55, 3) := dqr2 dqK_180 dqw_cX7_runsOf_0 19 rfl rfl rfl rfl rfl
theorem dX7_runsOf_22 : decode cX7_runsOf 22 = .ok (.iload_n 3, 1) := dqr0 dqK_29 dqw_cX7_runsOf_0 22 rfl rfl
theorem dX7_runsOf_23 : decode cX7_runsOf 23 = .ok (.iaload, 1) := dqr0 dqK_46 dqw_cX7_runsOf_0 23 rfl rfl
theorem dqw_cX7_runsOf_24 : dqLF cX7_runsOf 24 [28, 160, 0, 18, 28, 42, 180, 0, 55, 27, 46, 163, 0, 8, 42, 29, 182, 1, 54, 132, 3, 1] := by decide +kernel
theorem dX7_runsOf_24 : decode cX7_runsOf 24 = .ok (.iload_n 2, 1) := dqr0 dqK_28 dqw_cX7_runsOf_24 0 rfl rfl
theorem dX7_runsOf_25 : decode cX7_runsOf 25 = .ok (.if_icmp .ne 18, 3) := dqrs2 dqK_160 dqw_cX7_runsOf_24 1 rfl rfl rfl rfl (by decide)
theorem dX7_runsOf_28 : decode cX7_runsOf 28 = .ok (.iload_n 2, 1) := dqr0 dqK_28 dqw_cX7_runsOf_24 4 rfl rfl
theorem dX7_runsOf_29 : decode cX7_runsOf 29 = .ok (.aload_n 0, 1) := dqr0 dqK_42 dqw_cX7_runsOf_24 5 rfl rfl
theorem dX7_runsOf_30 : decode cX7_runsOf 30 = .ok (.getfield 55, 3) := dqr2 dqK_180 dqw_cX7_runsOf_24 6 rfl rfl rfl rfl rfl
theorem dX7_runsOf_33 : decode cX7_runsOf 33 = .ok (.iload_n 1, 1) := dqr0 dqK_27 dqw_cX7_runsOf_24 9 rfl rfl
theorem dX7_runsOf_34 : decode cX7_runsOf 34 = .ok (.iaload, 1) := dqr0 dqK_46 dqw_cX7_runsOf_24 10 rfl rfl
theorem dX7_runsOf_35 : decode cX7_runsOf 35 = .ok (.if_icmp .gt 8, 3) := dqrs2 dqK_163 dqw_cX7_runsOf_24 11 rfl rfl rfl rfl (by decide)
theorem dX7_runsOf_38 : decode cX7_runsOf 38 = .ok (.aload_n 0, 1) := dqr0 dqK_42 dqw_cX7_runsOf_24 14 rfl rfl
theorem dX7_runsOf_39 : decode cX7_runsOf 39 = .ok (.iload_n 3, 1) := dqr0 dqK_29 dqw_cX7_runsOf_24 15 rfl rfl
theorem dX7_runsOf_40 : decode cX7_runsOf 40 = .ok (.invokevirtual 310, 3) := dqr2 dqK_182 dqw_cX7_runsOf_24 16 rfl rfl rfl rfl rfl
theorem dX7_runsOf_43 : decode cX7_runsOf 43 = .ok (.iinc 3 1, 3) := dqri dqK_132 dqw_cX7_runsOf_24 19 rfl rfl rfl rfl (by decide)
theorem dqw_cX7_runsOf_46 : dqLF cX7_runsOf 46 [167, 255, 222, 132, 2, 1, 167, 255, 206, 42, 180, 0, 83, 17, 2, 113, 27, 104, 42, 180, 1, 26, 96, 46] := by decide +kernel
theorem dX7_runsOf_46 : decode cX7_runsOf 46 = .ok (.goto (-34), 3) := dqrs2 dqK_167 dqw_cX7_runsOf_46 0 rfl rfl rfl rfl (by decide)
theorem dX7_runsOf_49 : decode cX7_runsOf 49 = .ok (.iinc 2 1, 3) := dqri dqK_132 dqw_cX7_runsOf_46 3 rfl rfl rfl rfl (by decide)
theorem dX7_runsOf_52 : decode cX7_runsOf 52 = .ok (.goto (-50), 3) := dqrs2 dqK_167 dqw_cX7_runsOf_46 6 rfl rfl rfl rfl (by decide)
theorem dX7_runsOf_55 : decode cX7_runsOf 55 = .ok (.aload_n 0, 1) := dqr0 dqK_42 dqw_cX7_runsOf_46 9 rfl rfl
theorem dX7_runsOf_56 : decode cX7_runsOf 56 = .ok (.getfield 83, 3) := dqr2 dqK_180 dqw_cX7_runsOf_46 10 rfl rfl rfl rfl rfl
theorem dX7_runsOf_59 : decode cX7_runsOf 59 = .ok (.sipush 625, 3) := dqrs2 dqK_17 dqw_cX7_runsOf_46 13 rfl rfl rfl rfl (by decide)
theorem dX7_runsOf_62 : decode cX7_runsOf 62 = .ok (.iload_n 1, 1) := dqr0 dqK_27 dqw_cX7_runsOf_46 16 rfl rfl
theorem dX7_runsOf_63 : decode cX7_runsOf 63 = .ok (.imul, 1) := dqr0 dqK_104 dqw_cX7_runsOf_46 17 rfl rfl
theorem dX7_runsOf_64 : decode cX7_runsOf 64 = .ok (.aload_n 0, 1) := dqr0 dqK_42 dqw_cX7_runsOf_46 18 rfl rfl
theorem dX7_runsOf_65 : decode cX7_runsOf 65 = .ok (.getfield 282, 3) := dqr2 dqK_180 dqw_cX7_runsOf_46 19 rfl rfl rfl rfl rfl
theorem dX7_runsOf_68 : decode cX7_runsOf 68 = .ok (.iadd, 1) := dqr0 dqK_96 dqw_cX7_runsOf_46 22 rfl rfl
theorem dX7_runsOf_69 : decode cX7_runsOf 69 = .ok (.iaload, 1) := dqr0 dqK_46 dqw_cX7_runsOf_46 23 rfl rfl
theorem dqw_cX7_runsOf_70 : dqLF cX7_runsOf 70 [172] := by decide +kernel
theorem dX7_runsOf_70 : decode cX7_runsOf 70 = .ok (.ireturn, 1) := dqr0 dqK_172 dqw_cX7_runsOf_70 0 rfl rfl
theorem dqw_cX7_isSinger_0 : dqLF cX7_isSinger 0 [27, 155, 0, 15, 27, 42, 180, 1, 57, 162, 0, 7, 4, 167, 0, 4, 3, 172] := by decide +kernel
theorem dX7_isSinger_0 : decode cX7_isSinger 0 = .ok (.iload_n 1, 1) := dqr0 dqK_27 dqw_cX7_isSinger_0 0 rfl rfl
theorem dX7_isSinger_1 : decode cX7_isSinger 1 = .ok (.ifCond .lt 15, 3) := dqrs2 dqK_155 dqw_cX7_isSinger_0 1 rfl rfl rfl rfl (by decide)
theorem dX7_isSinger_4 : decode cX7_isSinger 4 = .ok (.iload_n 1, 1) := dqr0 dqK_27 dqw_cX7_isSinger_0 4 rfl rfl
theorem dX7_isSinger_5 : decode cX7_isSinger 5 = .ok (.aload_n 0, 1) := dqr0 dqK_42 dqw_cX7_isSinger_0 5 rfl rfl
theorem dX7_isSinger_6 : decode cX7_isSinger 6 = .ok (.getfield 313, 3) := dqr2 dqK_180 dqw_cX7_isSinger_0 6 rfl rfl rfl rfl rfl
theorem dX7_isSinger_9 : decode cX7_isSinger 9 = .ok (.if_icmp .ge 7, 3) := dqrs2 dqK_162 dqw_cX7_isSinger_0 9 rfl rfl rfl rfl (by decide)
theorem dX7_isSinger_12 : decode cX7_isSinger 12 = .ok (.iconst 1, 1) := dqr0 dqK_4 dqw_cX7_isSinger_0 12 rfl rfl
theorem dX7_isSinger_13 : decode cX7_isSinger 13 = .ok (.goto 4, 3) := dqrs2 dqK_167 dqw_cX7_isSinger_0 13 rfl rfl rfl rfl (by decide)
theorem dX7_isSinger_16 : decode cX7_isSinger 16 = .ok (.iconst 0, 1) := dqr0 dqK_3 dqw_cX7_isSinger_0 16 rfl rfl
theorem dX7_isSinger_17 : decode cX7_isSinger 17 = .ok (.ireturn, 1) := dqr0 dqK_172 dqw_cX7_isSinger_0 17 rfl rfl
theorem dqw_cX7_isYear_0 : dqLF cX7_isYear 0 [26, 155, 0, 14, 26, 17, 3, 231, 163, 0, 7, 4, 167, 0, 4, 3, 172] := by decide +kernel
theorem dX7_isYear_0 : decode cX7_isYear 0 = .ok (.iload_n 0, 1) := dqr0 dqK_26 dqw_cX7_isYear_0 0 rfl rfl
theorem dX7_isYear_1 : decode cX7_isYear 1 = .ok (.ifCond .lt 14, 3) := dqrs2 dqK_155 dqw_cX7_isYear_0 1 rfl rfl rfl rfl (by decide)
theorem dX7_isYear_4 : decode cX7_isYear 4 = .ok (.iload_n 0, 1) := dqr0 dqK_26 dqw_cX7_isYear_0 4 rfl rfl
theorem dX7_isYear_5 : decode cX7_isYear 5 = .ok (.sipush 999, 3) := dqrs2 dqK_17 dqw_cX7_isYear_0 5 rfl rfl rfl rfl (by decide)
theorem dX7_isYear_8 : decode cX7_isYear 8 = .ok (.if_icmp .gt 7, 3) := dqrs2 dqK_163 dqw_cX7_isYear_0 8 rfl rfl rfl rfl (by decide)
theorem dX7_isYear_11 : decode cX7_isYear 11 = .ok (.iconst 1, 1) := dqr0 dqK_4 dqw_cX7_isYear_0 11 rfl rfl
theorem dX7_isYear_12 : decode cX7_isYear 12 = .ok (.goto 4, 3) := dqrs2 dqK_167 dqw_cX7_isYear_0 12 rfl rfl rfl rfl (by decide)
theorem dX7_isYear_15 : decode cX7_isYear 15 = .ok (.iconst 0, 1) := dqr0 dqK_3 dqw_cX7_isYear_0 15 rfl rfl
theorem dX7_isYear_16 : decode cX7_isYear 16 = .ok (.ireturn, 1) := dqr0 dqK_172 dqw_cX7_isYear_0 16 rfl rfl
theorem dqw_cX7_isKnown_0 : dqLF cX7_isKnown 0 [27, 133, 20, 0, 156, 42, 180, 1, 10, 133, 184, 0, 152, 172] := by decide +kernel
theorem dX7_isKnown_0 : decode cX7_isKnown 0 = .ok (.iload_n 1, 1) := dqr0 dqK_27 dqw_cX7_isKnown_0 0 rfl rfl
theorem dX7_isKnown_1 : decode cX7_isKnown 1 = .ok (.i2l, 1) := dqr0 dqK_133 dqw_cX7_isKnown_0 1 rfl rfl
theorem dX7_isKnown_2 : decode cX7_isKnown 2 = .ok (.ldc2_w 156, 3) := dqr2 dqK_20 dqw_cX7_isKnown_0 2 rfl rfl rfl rfl rfl
theorem dX7_isKnown_5 : decode cX7_isKnown 5 = .ok (.aload_n 0, 1) := dqr0 dqK_42 dqw_cX7_isKnown_0 5 rfl rfl
theorem dX7_isKnown_6 : decode cX7_isKnown 6 = .ok (.getfield 266, 3) := dqr2 dqK_180 dqw_cX7_isKnown_0 6 rfl rfl rfl rfl rfl
theorem dX7_isKnown_9 : decode cX7_isKnown 9 = .ok (.i2l, 1) := dqr0 dqK_133 dqw_cX7_isKnown_0 9 rfl rfl
theorem dX7_isKnown_10 : decode cX7_isKnown 10 = .ok (.invokestatic 152, 3) := dqr2 dqK_184 dqw_cX7_isKnown_0 10 rfl rfl rfl rfl rfl
theorem dX7_isKnown_13 : decode cX7_isKnown 13 = .ok (.ireturn, 1) := dqr0 dqK_172 dqw_cX7_isKnown_0 13 rfl rfl
theorem dqw_cX7_upTo_0 : dqLF cX7_upTo 0 [27, 156, 0, 10, 42, 180, 1, 10, 167, 0, 4, 27, 172] := by decide +kernel
theorem dX7_upTo_0 : decode cX7_upTo 0 = .ok (.iload_n 1, 1) := dqr0 dqK_27 dqw_cX7_upTo_0 0 rfl rfl
theorem dX7_upTo_1 : decode cX7_upTo 1 = .ok (.ifCond .ge 10, 3) := dqrs2 dqK_156 dqw_cX7_upTo_0 1 rfl rfl rfl rfl (by decide)
theorem dX7_upTo_4 : decode cX7_upTo 4 = .ok (.aload_n 0, 1) := dqr0 dqK_42 dqw_cX7_upTo_0 4 rfl rfl
theorem dX7_upTo_5 : decode cX7_upTo 5 = .ok (.getfield 266, 3) := dqr2 dqK_180 dqw_cX7_upTo_0 5 rfl rfl rfl rfl rfl
theorem dX7_upTo_8 : decode cX7_upTo 8 = .ok (.goto 4, 3) := dqrs2 dqK_167 dqw_cX7_upTo_0 8 rfl rfl rfl rfl (by decide)
theorem dX7_upTo_11 : decode cX7_upTo 11 = .ok (.iload_n 1, 1) := dqr0 dqK_27 dqw_cX7_upTo_0 11 rfl rfl
theorem dX7_upTo_12 : decode cX7_upTo 12 = .ok (.ireturn, 1) := dqr0 dqK_172 dqw_cX7_upTo_0 12 rfl rfl
theorem dqw_cX7_singer_0 : dqLF cX7_singer 0 [27, 184, 1, 7, 154, 0, 6, 16, 254, 172, 42, 180, 1, 57, 16, 8, 160, 0, 6, 16, 252, 172, 42] := by decide +kernel
theorem dX7_singer_0 : decode cX7_singer 0 = .ok (.iload_n 1, 1) := dqr0 dqK_27 dqw_cX7_singer_0 0 rfl rfl
theorem dX7_singer_1 : decode cX7_singer 1 = .ok (.invokestatic 263, 3) := dqr2 dqK_184 dqw_cX7_singer_0 1 rfl rfl rfl rfl rfl
theorem dX7_singer_4 : decode cX7_singer 4 = .ok (.ifCond .ne 6, 3) := dqrs2 dqK_154 dqw_cX7_singer_0 4 rfl rfl rfl rfl (by decide)
theorem dX7_singer_7 : decode cX7_singer 7 = .ok (.bipush (-2), 2) := dqrs1 dqK_16 dqw_cX7_singer_0 7 rfl rfl rfl (by decide)
theorem dX7_singer_9 : decode cX7_singer 9 = .ok (.ireturn, 1) := dqr0 dqK_172 dqw_cX7_singer_0 9 rfl rfl
theorem dX7_singer_10 : decode cX7_singer 10 = .ok (.aload_n 0, 1) := dqr0 dqK_42 dqw_cX7_singer_0 10 rfl rfl
theorem dX7_singer_11 : decode cX7_singer 11 = .ok (.getfield 313, 3) := dqr2 dqK_180 dqw_cX7_singer_0 11 rfl rfl rfl rfl rfl
theorem dX7_singer_14 : decode cX7_singer 14 = .ok (.bipush 8, 2) := dqrs1 dqK_16 dqw_cX7_singer_0 14 rfl rfl rfl (by decide)
theorem dX7_singer_16 : decode cX7_singer 16 = .ok (.if_icmp .ne 6, 3) := dqrs2 dqK_160 dqw_cX7_singer_0 16 rfl rfl rfl rfl (by decide)
theorem dX7_singer_19 : decode cX7_singer 19 = .ok (.bipush (-4), 2) := dqrs1 dqK_16 dqw_cX7_singer_0 19 rfl rfl rfl (by decide)
theorem dX7_singer_21 : decode cX7_singer 21 = .ok (.ireturn, 1) := dqr0 dqK_172 dqw_cX7_singer_0 21 rfl rfl
theorem dX7_singer_22 : decode cX7_singer 22 = .ok (.aload_n 0, 1) := dqr0 dqK_42 dqw_cX7_singer_0 22 rfl rfl
theorem dqw_cX7_singer_23 : dqLF cX7_singer 23 [180, 0, 107, 42, 180, 1, 57, 27, 79, 42, 89, 180, 1, 57, 4, 96, 181, 1, 57, 42, 180, 1, 57, 4] := by decide +kernel
theorem dX7_singer_23 : decode cX7_singer 23 = .ok (.getfield 107, 3) := dqr2 dqK_180 dqw_cX7_singer_23 0 rfl rfl rfl rfl rfl
theorem dX7_singer_26 : decode cX7_singer 26 = .ok (.aload_n 0, 1) := dqr0 dqK_42 dqw_cX7_singer_23 3 rfl rfl
theorem dX7_singer_27 : decode cX7_singer 27 = .ok (.getfield 313, 3) := dqr2 dqK_180 dqw_cX7_singer_23 4 rfl rfl rfl rfl rfl
theorem dX7_singer_30 : decode cX7_singer 30 = .ok (.iload_n 1, 1) := dqr0 dqK_27 dqw_cX7_singer_23 7 rfl rfl
theorem dX7_singer_31 : decode cX7_singer 31 = .ok (.iastore, 1) := dqr0 dqK_79 dqw_cX7_singer_23 8 rfl rfl
theorem dX7_singer_32 : decode cX7_singer 32 = .ok (.aload_n 0, 1) := dqr0 dqK_42 dqw_cX7_singer_23 9 rfl rfl
theorem dX7_singer_33 : decode cX7_singer 33 = .ok (.dup, 1) := dqr0 dqK_89 dqw_cX7_singer_23 10 rfl rfl
theorem dX7_singer_34 : decode cX7_singer 34 = .ok (.getfield 313, 3) := dqr2 dqK_180 dqw_cX7_singer_23 11 rfl rfl rfl rfl rfl
theorem dX7_singer_37 : decode cX7_singer 37 = .ok (.iconst 1, 1) := dqr0 dqK_4 dqw_cX7_singer_23 14 rfl rfl
theorem dX7_singer_38 : decode cX7_singer 38 = .ok (.iadd, 1) := dqr0 dqK_96 dqw_cX7_singer_23 15 rfl rfl
theorem dX7_singer_39 : decode cX7_singer 39 = .ok (.putfield 313, 3) := dqr2 dqK_181 dqw_cX7_singer_23 16 rfl rfl rfl rfl rfl
theorem dX7_singer_42 : decode cX7_singer 42 = .ok (.aload_n 0, 1) := dqr0 dqK_42 dqw_cX7_singer_23 19 rfl rfl
theorem dX7_singer_43 : decode cX7_singer 43 = .ok (.getfield 313, 3) := dqr2 dqK_180 dqw_cX7_singer_23 20 rfl rfl rfl rfl rfl
theorem dX7_singer_46 : decode cX7_singer 46 = .ok (.iconst 1, 1) := dqr0 dqK_4 dqw_cX7_singer_23 23 rfl rfl
theorem dqw_cX7_singer_47 : dqLF cX7_singer 47 [100, 172] := by decide +kernel
theorem dX7_singer_47 : decode cX7_singer 47 = .ok (.isub, 1) := dqr0 dqK_100 dqw_cX7_singer_47 0 rfl rfl
theorem dX7_singer_48 : decode cX7_singer 48 = .ok (.ireturn, 1) := dqr0 dqK_172 dqw_cX7_singer_47 1 rfl rfl
theorem dqw_cX7_village_0 : dqLF cX7_village 0 [42, 27, 182, 1, 4, 154, 0, 5, 2, 172, 28, 133, 9, 20, 1, 60, 184, 0, 152, 154, 0, 6, 16, 254] := by decide +kernel
theorem dX7_village_0 : decode cX7_village 0 = .ok (.aload_n 0, 1) := dqr0 dqK_42 dqw_cX7_village_0 0 rfl rfl
theorem dX7_village_1 : decode cX7_village 1 = .ok (.iload_n 1, 1) := dqr0 dqK_27 dqw_cX7_village_0 1 rfl rfl
theorem dX7_village_2 : decode cX7_village 2 = .ok (.invokevirtual 260, 3) := dqr2 dqK_182 dqw_cX7_village_0 2 rfl rfl rfl rfl rfl
theorem dX7_village_5 : decode cX7_village 5 = .ok (.ifCond .ne 5, 3) := dqrs2 dqK_154 dqw_cX7_village_0 5 rfl rfl rfl rfl (by decide)
theorem dX7_village_8 : decode cX7_village 8 = .ok (.iconst (-1), 1) := dqr0 dqK_2 dqw_cX7_village_0 8 rfl rfl
theorem dX7_village_9 : decode cX7_village 9 = .ok (.ireturn, 1) := dqr0 dqK_172 dqw_cX7_village_0 9 rfl rfl
theorem dX7_village_10 : decode cX7_village 10 = .ok (.iload_n 2, 1) := dqr0 dqK_28 dqw_cX7_village_0 10 rfl rfl
theorem dX7_village_11 : decode cX7_village 11 = .ok (.i2l, 1) := dqr0 dqK_133 dqw_cX7_village_0 11 rfl rfl
theorem dX7_village_12 : decode cX7_village 12 = .ok (.lconst 0, 1) := dqr0 dqK_9 dqw_cX7_village_0 12 rfl rfl
theorem dX7_village_13 : decode cX7_village 13 = .ok (.ldc2_w 316, 3) := dqr2 dqK_20 dqw_cX7_village_0 13 rfl rfl rfl rfl rfl
theorem dX7_village_16 : decode cX7_village 16 = .ok (.invokestatic 152, 3) := dqr2 dqK_184 dqw_cX7_village_0 16 rfl rfl rfl rfl rfl
theorem dX7_village_19 : decode cX7_village 19 = .ok (.ifCond .ne 6, 3) := dqrs2 dqK_154 dqw_cX7_village_0 19 rfl rfl rfl rfl (by decide)
theorem dX7_village_22 : decode cX7_village 22 = .ok (.bipush (-2), 2) := dqrs1 dqK_16 dqw_cX7_village_0 22 rfl rfl rfl (by decide)
theorem dqw_cX7_village_24 : dqLF cX7_village 24 [172, 42, 180, 0, 110, 27, 46, 62, 42, 180, 0, 110, 27, 28, 79, 29, 172] := by decide +kernel
theorem dX7_village_24 : decode cX7_village 24 = .ok (.ireturn, 1) := dqr0 dqK_172 dqw_cX7_village_24 0 rfl rfl
theorem dX7_village_25 : decode cX7_village 25 = .ok (.aload_n 0, 1) := dqr0 dqK_42 dqw_cX7_village_24 1 rfl rfl
theorem dX7_village_26 : decode cX7_village 26 = .ok (.getfield 110, 3) := dqr2 dqK_180 dqw_cX7_village_24 2 rfl rfl rfl rfl rfl
theorem dX7_village_29 : decode cX7_village 29 = .ok (.iload_n 1, 1) := dqr0 dqK_27 dqw_cX7_village_24 5 rfl rfl
theorem dX7_village_30 : decode cX7_village 30 = .ok (.iaload, 1) := dqr0 dqK_46 dqw_cX7_village_24 6 rfl rfl
theorem dX7_village_31 : decode cX7_village 31 = .ok (.istore_n 3, 1) := dqr0 dqK_62 dqw_cX7_village_24 7 rfl rfl
theorem dX7_village_32 : decode cX7_village 32 = .ok (.aload_n 0, 1) := dqr0 dqK_42 dqw_cX7_village_24 8 rfl rfl
theorem dX7_village_33 : decode cX7_village 33 = .ok (.getfield 110, 3) := dqr2 dqK_180 dqw_cX7_village_24 9 rfl rfl rfl rfl rfl
theorem dX7_village_36 : decode cX7_village 36 = .ok (.iload_n 1, 1) := dqr0 dqK_27 dqw_cX7_village_24 12 rfl rfl
theorem dX7_village_37 : decode cX7_village 37 = .ok (.iload_n 2, 1) := dqr0 dqK_28 dqw_cX7_village_24 13 rfl rfl
theorem dX7_village_38 : decode cX7_village 38 = .ok (.iastore, 1) := dqr0 dqK_79 dqw_cX7_village_24 14 rfl rfl
theorem dX7_village_39 : decode cX7_village 39 = .ok (.iload_n 3, 1) := dqr0 dqK_29 dqw_cX7_village_24 15 rfl rfl
theorem dX7_village_40 : decode cX7_village 40 = .ok (.ireturn, 1) := dqr0 dqK_172 dqw_cX7_village_24 16 rfl rfl
theorem dqw_cX7_enters_0 : dqLF cX7_enters 0 [42, 180, 1, 10, 17, 0, 200, 160, 0, 6, 16, 252, 172, 42, 180, 0, 113, 42, 180, 1, 10, 27, 79, 42] := by decide +kernel
theorem dX7_enters_0 : decode cX7_enters 0 = .ok (.aload_n 0, 1) := dqr0 dqK_42 dqw_cX7_enters_0 0 rfl rfl
theorem dX7_enters_1 : decode cX7_enters 1 = .ok (.getfield 266, 3) := dqr2 dqK_180 dqw_cX7_enters_0 1 rfl rfl rfl rfl rfl
theorem dX7_enters_4 : decode cX7_enters 4 = .ok (.sipush 200, 3) := dqrs2 dqK_17 dqw_cX7_enters_0 4 rfl rfl rfl rfl (by decide)
theorem dX7_enters_7 : decode cX7_enters 7 = .ok (.if_icmp .ne 6, 3) := dqrs2 dqK_160 dqw_cX7_enters_0 7 rfl rfl rfl rfl (by decide)
theorem dX7_enters_10 : decode cX7_enters 10 = .ok (.bipush (-4), 2) := dqrs1 dqK_16 dqw_cX7_enters_0 10 rfl rfl rfl (by decide)
theorem dX7_enters_12 : decode cX7_enters 12 = .ok (.ireturn, 1) := dqr0 dqK_172 dqw_cX7_enters_0 12 rfl rfl
theorem dX7_enters_13 : decode cX7_enters 13 = .ok (.aload_n 0, 1) := dqr0 dqK_42 dqw_cX7_enters_0 13 rfl rfl
theorem dX7_enters_14 : decode cX7_enters 14 = .ok (.getfield 113, 3) := dqr2 dqK_180 dqw_cX7_enters_0 14 rfl rfl rfl rfl rfl
theorem dX7_enters_17 : decode cX7_enters 17 = .ok (.aload_n 0, 1) := dqr0 dqK_42 dqw_cX7_enters_0 17 rfl rfl
theorem dX7_enters_18 : decode cX7_enters 18 = .ok (.getfield 266, 3) := dqr2 dqK_180 dqw_cX7_enters_0 18 rfl rfl rfl rfl rfl
theorem dX7_enters_21 : decode cX7_enters 21 = .ok (.iload_n 1, 1) := dqr0 dqK_27 dqw_cX7_enters_0 21 rfl rfl
theorem dX7_enters_22 : decode cX7_enters 22 = .ok (.iastore, 1) := dqr0 dqK_79 dqw_cX7_enters_0 22 rfl rfl
theorem dX7_enters_23 : decode cX7_enters 23 = .ok (.aload_n 0, 1) := dqr0 dqK_42 dqw_cX7_enters_0 23 rfl rfl
theorem dqw_cX7_enters_24 : dqLF cX7_enters 24 [180, 0, 116, 42, 180, 1, 10, 28, 79, 42, 180, 0, 119, 42, 180, 1, 10, 29, 79, 42, 180, 0, 122, 42] := by decide +kernel
theorem dX7_enters_24 : decode cX7_enters 24 = .ok (.getfield 116, 3) := dqr2 dqK_180 dqw_cX7_enters_24 0 rfl rfl rfl rfl rfl
theorem dX7_enters_27 : decode cX7_enters 27 = .ok (.aload_n 0, 1) := dqr0 dqK_42 dqw_cX7_enters_24 3 rfl rfl
theorem dX7_enters_28 : decode cX7_enters 28 = .ok (.getfield 266, 3) := dqr2 dqK_180 dqw_cX7_enters_24 4 rfl rfl rfl rfl rfl
theorem dX7_enters_31 : decode cX7_enters 31 = .ok (.iload_n 2, 1) := dqr0 dqK_28 dqw_cX7_enters_24 7 rfl rfl
theorem dX7_enters_32 : decode cX7_enters 32 = .ok (.iastore, 1) := dqr0 dqK_79 dqw_cX7_enters_24 8 rfl rfl
theorem dX7_enters_33 : decode cX7_enters 33 = .ok (.aload_n 0, 1) := dqr0 dqK_42 dqw_cX7_enters_24 9 rfl rfl
theorem dX7_enters_34 : decode cX7_enters 34 = .ok (.getfield 119, 3) := dqr2 dqK_180 dqw_cX7_enters_24 10 rfl rfl rfl rfl rfl
theorem dX7_enters_37 : decode cX7_enters 37 = .ok (.aload_n 0, 1) := dqr0 dqK_42 dqw_cX7_enters_24 13 rfl rfl
theorem dX7_enters_38 : decode cX7_enters 38 = .ok (.getfield 266, 3) := dqr2 dqK_180 dqw_cX7_enters_24 14 rfl rfl rfl rfl rfl
theorem dX7_enters_41 : decode cX7_enters 41 = .ok (.iload_n 3, 1) := dqr0 dqK_29 dqw_cX7_enters_24 17 rfl rfl
theorem dX7_enters_42 : decode cX7_enters 42 = .ok (.iastore, 1) := dqr0 dqK_79 dqw_cX7_enters_24 18 rfl rfl
theorem dX7_enters_43 : decode cX7_enters 43 = .ok (.aload_n 0, 1) := dqr0 dqK_42 dqw_cX7_enters_24 19 rfl rfl
theorem dX7_enters_44 : decode cX7_enters 44 = .ok (.getfield 122, 3) := dqr2 dqK_180 dqw_cX7_enters_24 20 rfl rfl rfl rfl rfl
theorem dX7_enters_47 : decode cX7_enters 47 = .ok (.aload_n 0, 1) := dqr0 dqK_42 dqw_cX7_enters_24 23 rfl rfl
theorem dqw_cX7_enters_48 : dqLF cX7_enters 48 [180, 1, 10, 21, 4, 84, 42, 89, 180, 1, 10, 4, 96, 181, 1, 10, 42, 180, 1, 10, 172] := by decide +kernel
theorem dX7_enters_48 : decode cX7_enters 48 = .ok (.getfield 266, 3) := dqr2 dqK_180 dqw_cX7_enters_48 0 rfl rfl rfl rfl rfl
theorem dX7_enters_51 : decode cX7_enters 51 = .ok (.iload 4, 2) := dqr1 dqK_21 dqw_cX7_enters_48 3 rfl rfl rfl
theorem dX7_enters_53 : decode cX7_enters 53 = .ok (.bastore, 1) := dqr0 dqK_84 dqw_cX7_enters_48 5 rfl rfl
theorem dX7_enters_54 : decode cX7_enters 54 = .ok (.aload_n 0, 1) := dqr0 dqK_42 dqw_cX7_enters_48 6 rfl rfl
theorem dX7_enters_55 : decode cX7_enters 55 = .ok (.dup, 1) := dqr0 dqK_89 dqw_cX7_enters_48 7 rfl rfl
theorem dX7_enters_56 : decode cX7_enters 56 = .ok (.getfield 266, 3) := dqr2 dqK_180 dqw_cX7_enters_48 8 rfl rfl rfl rfl rfl
theorem dX7_enters_59 : decode cX7_enters 59 = .ok (.iconst 1, 1) := dqr0 dqK_4 dqw_cX7_enters_48 11 rfl rfl
theorem dX7_enters_60 : decode cX7_enters 60 = .ok (.iadd, 1) := dqr0 dqK_96 dqw_cX7_enters_48 12 rfl rfl
theorem dX7_enters_61 : decode cX7_enters 61 = .ok (.putfield 266, 3) := dqr2 dqK_181 dqw_cX7_enters_48 13 rfl rfl rfl rfl rfl
theorem dX7_enters_64 : decode cX7_enters 64 = .ok (.aload_n 0, 1) := dqr0 dqK_42 dqw_cX7_enters_48 16 rfl rfl
theorem dX7_enters_65 : decode cX7_enters 65 = .ok (.getfield 266, 3) := dqr2 dqK_180 dqw_cX7_enters_48 17 rfl rfl rfl rfl rfl
theorem dX7_enters_68 : decode cX7_enters 68 = .ok (.ireturn, 1) := dqr0 dqK_172 dqw_cX7_enters_48 20 rfl rfl
theorem dqw_cX7_learn_0 : dqLF cX7_learn 0 [42, 27, 182, 1, 4, 153, 0, 24, 42, 28, 182, 0, 186, 153, 0, 16, 29, 2, 159, 0, 13, 42, 29] := by decide +kernel
theorem dX7_learn_0 : decode cX7_learn 0 = .ok (.aload_n 0, 1) := dqr0 dqK_42 dqw_cX7_learn_0 0 rfl rfl
theorem dX7_learn_1 : decode cX7_learn 1 = .ok (.iload_n 1, 1) := dqr0 dqK_27 dqw_cX7_learn_0 1 rfl rfl
theorem dX7_learn_2 : decode cX7_learn 2 = .ok (.invokevirtual 260, 3) := dqr2 dqK_182 dqw_cX7_learn_0 2 rfl rfl rfl rfl rfl
theorem dX7_learn_5 : decode cX7_learn 5 = .ok (.ifCond .eq 24, 3) := dqrs2 dqK_153 dqw_cX7_learn_0 5 rfl rfl rfl rfl (by decide)
theorem dX7_learn_8 : decode cX7_learn 8 = .ok (.aload_n 0, 1) := dqr0 dqK_42 dqw_cX7_learn_0 8 rfl rfl
theorem dX7_learn_9 : decode cX7_learn 9 = .ok (.iload_n 2, 1) := dqr0 dqK_28 dqw_cX7_learn_0 9 rfl rfl
theorem dX7_learn_10 : decode cX7_learn 10 = .ok (.invokevirtual 186, 3) := dqr2 dqK_182 dqw_cX7_learn_0 10 rfl rfl rfl rfl rfl
theorem dX7_learn_13 : decode cX7_learn 13 = .ok (.ifCond .eq 16, 3) := dqrs2 dqK_153 dqw_cX7_learn_0 13 rfl rfl rfl rfl (by decide)
theorem dX7_learn_16 : decode cX7_learn 16 = .ok (.iload_n 3, 1) := dqr0 dqK_29 dqw_cX7_learn_0 16 rfl rfl
theorem dX7_learn_17 : decode cX7_learn 17 = .ok (.iconst (-1), 1) := dqr0 dqK_2 dqw_cX7_learn_0 17 rfl rfl
theorem dX7_learn_18 : decode cX7_learn 18 = .ok (.if_icmp .eq 13, 3) := dqrs2 dqK_159 dqw_cX7_learn_0 18 rfl rfl rfl rfl (by decide)
theorem dX7_learn_21 : decode cX7_learn 21 = .ok (.aload_n 0, 1) := dqr0 dqK_42 dqw_cX7_learn_0 21 rfl rfl
theorem dX7_learn_22 : decode cX7_learn 22 = .ok (.iload_n 3, 1) := dqr0 dqK_29 dqw_cX7_learn_0 22 rfl rfl
theorem dqw_cX7_learn_23 : dqLF cX7_learn 23 [182, 1, 4, 154, 0, 5, 2, 172, 21, 4, 184, 1, 7, 153, 0, 8, 29, 27, 160, 0, 6, 16, 254, 172] := by decide +kernel
theorem dX7_learn_23 : decode cX7_learn 23 = .ok (.invokevirtual 260, 3) := dqr2 dqK_182 dqw_cX7_learn_23 0 rfl rfl rfl rfl rfl
theorem dX7_learn_26 : decode cX7_learn 26 = .ok (.ifCond .ne 5, 3) := dqrs2 dqK_154 dqw_cX7_learn_23 3 rfl rfl rfl rfl (by decide)
theorem dX7_learn_29 : decode cX7_learn 29 = .ok (.iconst (-1), 1) := dqr0 dqK_2 dqw_cX7_learn_23 6 rfl rfl
theorem dX7_learn_30 : decode cX7_learn 30 = .ok (.ireturn, 1) := dqr0 dqK_172 dqw_cX7_learn_23 7 rfl rfl
theorem dX7_learn_31 : decode cX7_learn 31 = .ok (.iload 4, 2) := dqr1 dqK_21 dqw_cX7_learn_23 8 rfl rfl rfl
theorem dX7_learn_33 : decode cX7_learn 33 = .ok (.invokestatic 263, 3) := dqr2 dqK_184 dqw_cX7_learn_23 10 rfl rfl rfl rfl rfl
theorem dX7_learn_36 : decode cX7_learn 36 = .ok (.ifCond .eq 8, 3) := dqrs2 dqK_153 dqw_cX7_learn_23 13 rfl rfl rfl rfl (by decide)
theorem dX7_learn_39 : decode cX7_learn 39 = .ok (.iload_n 3, 1) := dqr0 dqK_29 dqw_cX7_learn_23 16 rfl rfl
theorem dX7_learn_40 : decode cX7_learn 40 = .ok (.iload_n 1, 1) := dqr0 dqK_27 dqw_cX7_learn_23 17 rfl rfl
theorem dX7_learn_41 : decode cX7_learn 41 = .ok (.if_icmp .ne 6, 3) := dqrs2 dqK_160 dqw_cX7_learn_23 18 rfl rfl rfl rfl (by decide)
theorem dX7_learn_44 : decode cX7_learn 44 = .ok (.bipush (-2), 2) := dqrs1 dqK_16 dqw_cX7_learn_23 21 rfl rfl rfl (by decide)
theorem dX7_learn_46 : decode cX7_learn 46 = .ok (.ireturn, 1) := dqr0 dqK_172 dqw_cX7_learn_23 23 rfl rfl
theorem dqw_cX7_learn_47 : dqLF cX7_learn 47 [42, 27, 28, 21, 4, 4, 182, 1, 62, 172] := by decide +kernel
theorem dX7_learn_47 : decode cX7_learn 47 = .ok (.aload_n 0, 1) := dqr0 dqK_42 dqw_cX7_learn_47 0 rfl rfl
theorem dX7_learn_48 : decode cX7_learn 48 = .ok (.iload_n 1, 1) := dqr0 dqK_27 dqw_cX7_learn_47 1 rfl rfl
theorem dX7_learn_49 : decode cX7_learn 49 = .ok (.iload_n 2, 1) := dqr0 dqK_28 dqw_cX7_learn_47 2 rfl rfl
theorem dX7_learn_50 : decode cX7_learn 50 = .ok (.iload 4, 2) := dqr1 dqK_21 dqw_cX7_learn_47 3 rfl rfl rfl
theorem dX7_learn_52 : decode cX7_learn 52 = .ok (.iconst 1, 1) := dqr0 dqK_4 dqw_cX7_learn_47 5 rfl rfl
theorem dX7_learn_53 : decode cX7_learn 53 = .ok (.invokevirtual 318, 3) := dqr2 dqK_182 dqw_cX7_learn_47 6 rfl rfl rfl rfl rfl
theorem dX7_learn_56 : decode cX7_learn 56 = .ok (.ireturn, 1) := dqr0 dqK_172 dqw_cX7_learn_47 9 rfl rfl
theorem dqw_cX7_forget_0 : dqLF cX7_forget 0 [42, 27, 182, 1, 4, 153, 0, 11, 42, 28, 182, 0, 186, 154, 0, 5, 2, 172, 29, 184, 1, 7] := by decide +kernel
theorem dX7_forget_0 : decode cX7_forget 0 = .ok (.aload_n 0, 1) := dqr0 dqK_42 dqw_cX7_forget_0 0 rfl rfl
theorem dX7_forget_1 : decode cX7_forget 1 = .ok (.iload_n 1, 1) := dqr0 dqK_27 dqw_cX7_forget_0 1 rfl rfl
theorem dX7_forget_2 : decode cX7_forget 2 = .ok (.invokevirtual 260, 3) := dqr2 dqK_182 dqw_cX7_forget_0 2 rfl rfl rfl rfl rfl
theorem dX7_forget_5 : decode cX7_forget 5 = .ok (.ifCond .eq 11, 3) := dqrs2 dqK_153 dqw_cX7_forget_0 5 rfl rfl rfl rfl (by decide)
theorem dX7_forget_8 : decode cX7_forget 8 = .ok (.aload_n 0, 1) := dqr0 dqK_42 dqw_cX7_forget_0 8 rfl rfl
theorem dX7_forget_9 : decode cX7_forget 9 = .ok (.iload_n 2, 1) := dqr0 dqK_28 dqw_cX7_forget_0 9 rfl rfl
theorem dX7_forget_10 : decode cX7_forget 10 = .ok (.invokevirtual 186, 3) := dqr2 dqK_182 dqw_cX7_forget_0 10 rfl rfl rfl rfl rfl
theorem dX7_forget_13 : decode cX7_forget 13 = .ok (.ifCond .ne 5, 3) := dqrs2 dqK_154 dqw_cX7_forget_0 13 rfl rfl rfl rfl (by decide)
theorem dX7_forget_16 : decode cX7_forget 16 = .ok (.iconst (-1), 1) := dqr0 dqK_2 dqw_cX7_forget_0 16 rfl rfl
theorem dX7_forget_17 : decode cX7_forget 17 = .ok (.ireturn, 1) := dqr0 dqK_172 dqw_cX7_forget_0 17 rfl rfl
theorem dX7_forget_18 : decode cX7_forget 18 = .ok (.iload_n 3, 1) := dqr0 dqK_29 dqw_cX7_forget_0 18 rfl rfl
theorem dX7_forget_19 : decode cX7_forget 19 = .ok (.invokestatic 263, 3) := dqr2 dqK_184 dqw_cX7_forget_0 19 rfl rfl rfl rfl rfl
theorem dqw_cX7_forget_22 : dqLF cX7_forget 22 [154, 0, 6, 16, 254, 172, 42, 27, 28, 29, 3, 182, 1, 62, 172] := by decide +kernel
theorem dX7_forget_22 : decode cX7_forget 22 = .ok (.ifCond .ne 6, 3) := dqrs2 dqK_154 dqw_cX7_forget_22 0 rfl rfl rfl rfl (by decide)
theorem dX7_forget_25 : decode cX7_forget 25 = .ok (.bipush (-2), 2) := dqrs1 dqK_16 dqw_cX7_forget_22 3 rfl rfl rfl (by decide)
theorem dX7_forget_27 : decode cX7_forget 27 = .ok (.ireturn, 1) := dqr0 dqK_172 dqw_cX7_forget_22 5 rfl rfl
theorem dX7_forget_28 : decode cX7_forget 28 = .ok (.aload_n 0, 1) := dqr0 dqK_42 dqw_cX7_forget_22 6 rfl rfl
theorem dX7_forget_29 : decode cX7_forget 29 = .ok (.iload_n 1, 1) := dqr0 dqK_27 dqw_cX7_forget_22 7 rfl rfl
theorem dX7_forget_30 : decode cX7_forget 30 = .ok (.iload_n 2, 1) := dqr0 dqK_28 dqw_cX7_forget_22 8 rfl rfl
theorem dX7_forget_31 : decode cX7_forget 31 = .ok (.iload_n 3, 1) := dqr0 dqK_29 dqw_cX7_forget_22 9 rfl rfl
theorem dX7_forget_32 : decode cX7_forget 32 = .ok (.iconst 0, 1) := dqr0 dqK_3 dqw_cX7_forget_22 10 rfl rfl
theorem dX7_forget_33 : decode cX7_forget 33 = .ok (.invokevirtual 318, 3) := dqr2 dqK_182 dqw_cX7_forget_22 11 rfl rfl rfl rfl rfl
theorem dX7_forget_36 : decode cX7_forget 36 = .ok (.ireturn, 1) := dqr0 dqK_172 dqw_cX7_forget_22 14 rfl rfl
theorem dqw_cX7_hasLine_0 : dqLF cX7_hasLine 0 [2, 54, 5, 3, 54, 6, 21, 6, 21, 4, 162, 0, 68, 42, 180, 0, 113, 21, 6, 46, 27, 160, 0, 51] := by decide +kernel
theorem dX7_hasLine_0 : decode cX7_hasLine 0 = .ok (.iconst (-1), 1) := dqr0 dqK_2 dqw_cX7_hasLine_0 0 rfl rfl
theorem dX7_hasLine_1 : decode cX7_hasLine 1 = .ok (.istore 5, 2) := dqr1 dqK_54 dqw_cX7_hasLine_0 1 rfl rfl rfl
theorem dX7_hasLine_3 : decode cX7_hasLine 3 = .ok (.iconst 0, 1) := dqr0 dqK_3 dqw_cX7_hasLine_0 3 rfl rfl
theorem dX7_hasLine_4 : decode cX7_hasLine 4 = .ok (.istore 6, 2) := dqr1 dqK_54 dqw_cX7_hasLine_0 4 rfl rfl rfl
theorem dX7_hasLine_6 : decode cX7_hasLine 6 = .ok (.iload 6, 2) := dqr1 dqK_21 dqw_cX7_hasLine_0 6 rfl rfl rfl
theorem dX7_hasLine_8 : decode cX7_hasLine 8 = .ok (.iload 4, 2) := dqr1 dqK_21 dqw_cX7_hasLine_0 8 rfl rfl rfl
theorem dX7_hasLine_10 : decode cX7_hasLine 10 = .ok (.if_icmp .ge 68, 3) := dqrs2 dqK_162 dqw_cX7_hasLine_0 10 rfl rfl rfl rfl (by decide)
theorem dX7_hasLine_13 : decode cX7_hasLine 13 = .ok (.aload_n 0, 1) := dqr0 dqK_42 dqw_cX7_hasLine_0 13 rfl rfl
theorem dX7_hasLine_14 : decode cX7_hasLine 14 = .ok (.getfield 113, 3) := dqr2 dqK_180 dqw_cX7_hasLine_0 14 rfl rfl rfl rfl rfl
theorem dX7_hasLine_17 : decode cX7_hasLine 17 = .ok (.iload 6, 2) := dqr1 dqK_21 dqw_cX7_hasLine_0 17 rfl rfl rfl
theorem dX7_hasLine_19 : decode cX7_hasLine 19 = .ok (.iaload, 1) := dqr0 dqK_46 dqw_cX7_hasLine_0 19 rfl rfl
theorem dX7_hasLine_20 : decode cX7_hasLine 20 = .ok (.iload_n 1, 1) := dqr0 dqK_27 dqw_cX7_hasLine_0 20 rfl rfl
theorem dX7_hasLine_21 : decode cX7_hasLine 21 = .ok (.if_icmp .ne 51, 3) := dqrs2 dqK_160 dqw_cX7_hasLine_0 21 rfl rfl rfl rfl (by decide)
theorem dqw_cX7_hasLine_24 : dqLF cX7_hasLine 24 [42, 180, 0, 116, 21, 6, 46, 28, 160, 0, 40, 42, 180, 0, 119, 21, 6, 46, 29, 163, 0, 29, 21, 5] := by decide +kernel
theorem dX7_hasLine_24 : decode cX7_hasLine 24 = .ok (.aload_n 0, 1) := dqr0 dqK_42 dqw_cX7_hasLine_24 0 rfl rfl
theorem dX7_hasLine_25 : decode cX7_hasLine 25 = .ok (.getfield 116, 3) := dqr2 dqK_180 dqw_cX7_hasLine_24 1 rfl rfl rfl rfl rfl
theorem dX7_hasLine_28 : decode cX7_hasLine 28 = .ok (.iload 6, 2) := dqr1 dqK_21 dqw_cX7_hasLine_24 4 rfl rfl rfl
theorem dX7_hasLine_30 : decode cX7_hasLine 30 = .ok (.iaload, 1) := dqr0 dqK_46 dqw_cX7_hasLine_24 6 rfl rfl
theorem dX7_hasLine_31 : decode cX7_hasLine 31 = .ok (.iload_n 2, 1) := dqr0 dqK_28 dqw_cX7_hasLine_24 7 rfl rfl
theorem dX7_hasLine_32 : decode cX7_hasLine 32 = .ok (.if_icmp .ne 40, 3) := dqrs2 dqK_160 dqw_cX7_hasLine_24 8 rfl rfl rfl rfl (by decide)
theorem dX7_hasLine_35 : decode cX7_hasLine 35 = .ok (.aload_n 0, 1) := dqr0 dqK_42 dqw_cX7_hasLine_24 11 rfl rfl
theorem dX7_hasLine_36 : decode cX7_hasLine 36 = .ok (.getfield 119, 3) := dqr2 dqK_180 dqw_cX7_hasLine_24 12 rfl rfl rfl rfl rfl
theorem dX7_hasLine_39 : decode cX7_hasLine 39 = .ok (.iload 6, 2) := dqr1 dqK_21 dqw_cX7_hasLine_24 15 rfl rfl rfl
theorem dX7_hasLine_41 : decode cX7_hasLine 41 = .ok (.iaload, 1) := dqr0 dqK_46 dqw_cX7_hasLine_24 17 rfl rfl
theorem dX7_hasLine_42 : decode cX7_hasLine 42 = .ok (.iload_n 3, 1) := dqr0 dqK_29 dqw_cX7_hasLine_24 18 rfl rfl
theorem dX7_hasLine_43 : decode cX7_hasLine 43 = .ok (.if_icmp .gt 29, 3) := dqrs2 dqK_163 dqw_cX7_hasLine_24 19 rfl rfl rfl rfl (by decide)
theorem dX7_hasLine_46 : decode cX7_hasLine 46 = .ok (.iload 5, 2) := dqr1 dqK_21 dqw_cX7_hasLine_24 22 rfl rfl rfl
theorem dqw_cX7_hasLine_48 : dqLF cX7_hasLine 48 [155, 0, 20, 42, 180, 0, 119, 21, 6, 46, 42, 180, 0, 119, 21, 5, 46, 161, 0, 7, 21, 6, 54, 5] := by decide +kernel
theorem dX7_hasLine_48 : decode cX7_hasLine 48 = .ok (.ifCond .lt 20, 3) := dqrs2 dqK_155 dqw_cX7_hasLine_48 0 rfl rfl rfl rfl (by decide)
theorem dX7_hasLine_51 : decode cX7_hasLine 51 = .ok (.aload_n 0, 1) := dqr0 dqK_42 dqw_cX7_hasLine_48 3 rfl rfl
theorem dX7_hasLine_52 : decode cX7_hasLine 52 = .ok (.getfield 119, 3) := dqr2 dqK_180 dqw_cX7_hasLine_48 4 rfl rfl rfl rfl rfl
theorem dX7_hasLine_55 : decode cX7_hasLine 55 = .ok (.iload 6, 2) := dqr1 dqK_21 dqw_cX7_hasLine_48 7 rfl rfl rfl
theorem dX7_hasLine_57 : decode cX7_hasLine 57 = .ok (.iaload, 1) := dqr0 dqK_46 dqw_cX7_hasLine_48 9 rfl rfl
theorem dX7_hasLine_58 : decode cX7_hasLine 58 = .ok (.aload_n 0, 1) := dqr0 dqK_42 dqw_cX7_hasLine_48 10 rfl rfl
theorem dX7_hasLine_59 : decode cX7_hasLine 59 = .ok (.getfield 119, 3) := dqr2 dqK_180 dqw_cX7_hasLine_48 11 rfl rfl rfl rfl rfl
theorem dX7_hasLine_62 : decode cX7_hasLine 62 = .ok (.iload 5, 2) := dqr1 dqK_21 dqw_cX7_hasLine_48 14 rfl rfl rfl
theorem dX7_hasLine_64 : decode cX7_hasLine 64 = .ok (.iaload, 1) := dqr0 dqK_46 dqw_cX7_hasLine_48 16 rfl rfl
theorem dX7_hasLine_65 : decode cX7_hasLine 65 = .ok (.if_icmp .lt 7, 3) := dqrs2 dqK_161 dqw_cX7_hasLine_48 17 rfl rfl rfl rfl (by decide)
theorem dX7_hasLine_68 : decode cX7_hasLine 68 = .ok (.iload 6, 2) := dqr1 dqK_21 dqw_cX7_hasLine_48 20 rfl rfl rfl
theorem dX7_hasLine_70 : decode cX7_hasLine 70 = .ok (.istore 5, 2) := dqr1 dqK_54 dqw_cX7_hasLine_48 22 rfl rfl rfl
theorem dqw_cX7_hasLine_72 : dqLF cX7_hasLine 72 [132, 6, 1, 167, 255, 187, 21, 5, 155, 0, 17, 42, 180, 0, 122, 21, 5, 51, 153, 0, 7, 4] := by decide +kernel
theorem dX7_hasLine_72 : decode cX7_hasLine 72 = .ok (.iinc 6 1, 3) := dqri dqK_132 dqw_cX7_hasLine_72 0 rfl rfl rfl rfl (by decide)
theorem dX7_hasLine_75 : decode cX7_hasLine 75 = .ok (.goto (-69), 3) := dqrs2 dqK_167 dqw_cX7_hasLine_72 3 rfl rfl rfl rfl (by decide)
theorem dX7_hasLine_78 : decode cX7_hasLine 78 = .ok (.iload 5, 2) := dqr1 dqK_21 dqw_cX7_hasLine_72 6 rfl rfl rfl
theorem dX7_hasLine_80 : decode cX7_hasLine 80 = .ok (.ifCond .lt 17, 3) := dqrs2 dqK_155 dqw_cX7_hasLine_72 8 rfl rfl rfl rfl (by decide)
theorem dX7_hasLine_83 : decode cX7_hasLine 83 = .ok (.aload_n 0, 1) := dqr0 dqK_42 dqw_cX7_hasLine_72 11 rfl rfl
theorem dX7_hasLine_84 : decode cX7_hasLine 84 = .ok (.getfield 122, 3) := dqr2 dqK_180 dqw_cX7_hasLine_72 12 rfl rfl rfl rfl rfl
theorem dX7_hasLine_87 : decode cX7_hasLine 87 = .ok (.iload 5, 2) := dqr1 dqK_21 dqw_cX7_hasLine_72 15 rfl rfl rfl
theorem dX7_hasLine_89 : decode cX7_hasLine 89 = .ok (.baload, 1) := dqr0 dqK_51 dqw_cX7_hasLine_72 17 rfl rfl
theorem dX7_hasLine_90 : decode cX7_hasLine 90 = .ok (.ifCond .eq 7, 3) := dqrs2 dqK_153 dqw_cX7_hasLine_72 18 rfl rfl rfl rfl (by decide)
theorem dX7_hasLine_93 : decode cX7_hasLine 93 = .ok (.iconst 1, 1) := dqr0 dqK_4 dqw_cX7_hasLine_72 21 rfl rfl
theorem dqw_cX7_hasLine_94 : dqLF cX7_hasLine 94 [167, 0, 4, 3, 172] := by decide +kernel
theorem dX7_hasLine_94 : decode cX7_hasLine 94 = .ok (.goto 4, 3) := dqrs2 dqK_167 dqw_cX7_hasLine_94 0 rfl rfl rfl rfl (by decide)
theorem dX7_hasLine_97 : decode cX7_hasLine 97 = .ok (.iconst 0, 1) := dqr0 dqK_3 dqw_cX7_hasLine_94 3 rfl rfl
theorem dX7_hasLine_98 : decode cX7_hasLine 98 = .ok (.ireturn, 1) := dqr0 dqK_172 dqw_cX7_hasLine_94 4 rfl rfl
theorem dqw_cX7_findStock_0 : dqLF cX7_findStock 0 [3, 54, 4, 21, 4, 16, 40, 162, 0, 42, 42, 180, 0, 126, 21, 4, 21, 4, 42, 180, 0, 147] := by decide +kernel
theorem dX7_findStock_0 : decode cX7_findStock 0 = .ok (.iconst 0, 1) := dqr0 dqK_3 dqw_cX7_findStock_0 0 rfl rfl
theorem dX7_findStock_1 : decode cX7_findStock 1 = .ok (.istore 4, 2) := dqr1 dqK_54 dqw_cX7_findStock_0 1 rfl rfl rfl
theorem dX7_findStock_3 : decode cX7_findStock 3 = .ok (.iload 4, 2) := dqr1 dqK_21 dqw_cX7_findStock_0 3 rfl rfl rfl
theorem dX7_findStock_5 : decode cX7_findStock 5 = .ok (.bipush 40, 2) := dqrs1 dqK_16 dqw_cX7_findStock_0 5 rfl rfl rfl (by decide)
theorem dX7_findStock_7 : decode cX7_findStock 7 = .ok (.if_icmp .ge 42, 3) := dqrs2 dqK_162 dqw_cX7_findStock_0 7 rfl rfl rfl rfl (by decide)
theorem dX7_findStock_10 : decode cX7_findStock 10 = .ok (.aload_n 0, 1) := dqr0 dqK_42 dqw_cX7_findStock_0 10 rfl rfl
theorem dX7_findStock_11 : decode cX7_findStock 11 = .ok (.getfield 126, 3) := dqr2 dqK_180 dqw_cX7_findStock_0 11 rfl rfl rfl rfl rfl
theorem dX7_findStock_14 : decode cX7_findStock 14 = .ok (.iload 4, 2) := dqr1 dqK_21 dqw_cX7_findStock_0 14 rfl rfl rfl
theorem dX7_findStock_16 : decode cX7_findStock 16 = .ok (.iload 4, 2) := dqr1 dqK_21 dqw_cX7_findStock_0 16 rfl rfl rfl
theorem dX7_findStock_18 : decode cX7_findStock 18 = .ok (.aload_n 0, 1) := dqr0 dqK_42 dqw_cX7_findStock_0 18 rfl rfl
theorem dX7_findStock_19 : decode cX7_findStock 19 = .ok (.getfield 147, 3) := dqr2 dqK_180 dqw_cX7_findStock_0 19 rfl rfl rfl rfl rfl
theorem dqw_cX7_findStock_22 : dqLF cX7_findStock 22 [162, 0, 19, 42, 27, 21, 4, 28, 29, 182, 1, 66, 153, 0, 7, 4, 167, 0, 4, 3, 84, 132, 4, 1] := by decide +kernel
theorem dX7_findStock_22 : decode cX7_findStock 22 = .ok (.if_icmp .ge 19, 3) := dqrs2 dqK_162 dqw_cX7_findStock_22 0 rfl rfl rfl rfl (by decide)
theorem dX7_findStock_25 : decode cX7_findStock 25 = .ok (.aload_n 0, 1) := dqr0 dqK_42 dqw_cX7_findStock_22 3 rfl rfl
theorem dX7_findStock_26 : decode cX7_findStock 26 = .ok (.iload_n 1, 1) := dqr0 dqK_27 dqw_cX7_findStock_22 4 rfl rfl
theorem dX7_findStock_27 : decode cX7_findStock 27 = .ok (.iload 4, 2) := dqr1 dqK_21 dqw_cX7_findStock_22 5 rfl rfl rfl
theorem dX7_findStock_29 : decode cX7_findStock 29 = .ok (.iload_n 2, 1) := dqr0 dqK_28 dqw_cX7_findStock_22 7 rfl rfl
theorem dX7_findStock_30 : decode cX7_findStock 30 = .ok (.iload_n 3, 1) := dqr0 dqK_29 dqw_cX7_findStock_22 8 rfl rfl
theorem dX7_findStock_31 : decode cX7_findStock 31 = .ok (.invokevirtual 322, 3) := dqr2 dqK_182 dqw_cX7_findStock_22 9 rfl rfl rfl rfl rfl
theorem dX7_findStock_34 : decode cX7_findStock 34 = .ok (.ifCond .eq 7, 3) := dqrs2 dqK_153 dqw_cX7_findStock_22 12 rfl rfl rfl rfl (by decide)
theorem dX7_findStock_37 : decode cX7_findStock 37 = .ok (.iconst 1, 1) := dqr0 dqK_4 dqw_cX7_findStock_22 15 rfl rfl
theorem dX7_findStock_38 : decode cX7_findStock 38 = .ok (.goto 4, 3) := dqrs2 dqK_167 dqw_cX7_findStock_22 16 rfl rfl rfl rfl (by decide)
theorem dX7_findStock_41 : decode cX7_findStock 41 = .ok (.iconst 0, 1) := dqr0 dqK_3 dqw_cX7_findStock_22 19 rfl rfl
theorem dX7_findStock_42 : decode cX7_findStock 42 = .ok (.bastore, 1) := dqr0 dqK_84 dqw_cX7_findStock_22 20 rfl rfl
theorem dX7_findStock_43 : decode cX7_findStock 43 = .ok (.iinc 4 1, 3) := dqri dqK_132 dqw_cX7_findStock_22 21 rfl rfl rfl rfl (by decide)
theorem dqw_cX7_findStock_46 : dqLF cX7_findStock 46 [167, 255, 213, 177] := by decide +kernel
theorem dX7_findStock_46 : decode cX7_findStock 46 = .ok (.goto (-43), 3) := dqrs2 dqK_167 dqw_cX7_findStock_46 0 rfl rfl rfl rfl (by decide)
theorem dX7_findStock_49 : decode cX7_findStock 49 = .ok (.return_, 1) := dqr0 dqK_177 dqw_cX7_findStock_46 3 rfl rfl
theorem dqw_cX7_has_0 : dqLF cX7_has 0 [42, 27, 182, 1, 4, 153, 0, 20, 42, 28, 182, 0, 186, 153, 0, 12, 42, 21, 4, 182, 1, 70] := by decide +kernel
theorem dX7_has_0 : decode cX7_has 0 = .ok (.aload_n 0, 1) := dqr0 dqK_42 dqw_cX7_has_0 0 rfl rfl
theorem dX7_has_1 : decode cX7_has 1 = .ok (.iload_n 1, 1) := dqr0 dqK_27 dqw_cX7_has_0 1 rfl rfl
theorem dX7_has_2 : decode cX7_has 2 = .ok (.invokevirtual 260, 3) := dqr2 dqK_182 dqw_cX7_has_0 2 rfl rfl rfl rfl rfl
theorem dX7_has_5 : decode cX7_has 5 = .ok (.ifCond .eq 20, 3) := dqrs2 dqK_153 dqw_cX7_has_0 5 rfl rfl rfl rfl (by decide)
theorem dX7_has_8 : decode cX7_has 8 = .ok (.aload_n 0, 1) := dqr0 dqK_42 dqw_cX7_has_0 8 rfl rfl
theorem dX7_has_9 : decode cX7_has 9 = .ok (.iload_n 2, 1) := dqr0 dqK_28 dqw_cX7_has_0 9 rfl rfl
theorem dX7_has_10 : decode cX7_has 10 = .ok (.invokevirtual 186, 3) := dqr2 dqK_182 dqw_cX7_has_0 10 rfl rfl rfl rfl rfl
theorem dX7_has_13 : decode cX7_has 13 = .ok (.ifCond .eq 12, 3) := dqrs2 dqK_153 dqw_cX7_has_0 13 rfl rfl rfl rfl (by decide)
theorem dX7_has_16 : decode cX7_has 16 = .ok (.aload_n 0, 1) := dqr0 dqK_42 dqw_cX7_has_0 16 rfl rfl
theorem dX7_has_17 : decode cX7_has 17 = .ok (.iload 4, 2) := dqr1 dqK_21 dqw_cX7_has_0 17 rfl rfl rfl
theorem dX7_has_19 : decode cX7_has 19 = .ok (.invokevirtual 326, 3) := dqr2 dqK_182 dqw_cX7_has_0 19 rfl rfl rfl rfl rfl
theorem dqw_cX7_has_22 : dqLF cX7_has 22 [154, 0, 5, 2, 172, 29, 184, 1, 7, 154, 0, 6, 16, 254, 172, 42, 27, 28, 29, 42, 21, 4] := by decide +kernel
theorem dX7_has_22 : decode cX7_has 22 = .ok (.ifCond .ne 5, 3) := dqrs2 dqK_154 dqw_cX7_has_22 0 rfl rfl rfl rfl (by decide)
theorem dX7_has_25 : decode cX7_has 25 = .ok (.iconst (-1), 1) := dqr0 dqK_2 dqw_cX7_has_22 3 rfl rfl
theorem dX7_has_26 : decode cX7_has 26 = .ok (.ireturn, 1) := dqr0 dqK_172 dqw_cX7_has_22 4 rfl rfl
theorem dX7_has_27 : decode cX7_has 27 = .ok (.iload_n 3, 1) := dqr0 dqK_29 dqw_cX7_has_22 5 rfl rfl
theorem dX7_has_28 : decode cX7_has 28 = .ok (.invokestatic 263, 3) := dqr2 dqK_184 dqw_cX7_has_22 6 rfl rfl rfl rfl rfl
theorem dX7_has_31 : decode cX7_has 31 = .ok (.ifCond .ne 6, 3) := dqrs2 dqK_154 dqw_cX7_has_22 9 rfl rfl rfl rfl (by decide)
theorem dX7_has_34 : decode cX7_has 34 = .ok (.bipush (-2), 2) := dqrs1 dqK_16 dqw_cX7_has_22 12 rfl rfl rfl (by decide)
theorem dX7_has_36 : decode cX7_has 36 = .ok (.ireturn, 1) := dqr0 dqK_172 dqw_cX7_has_22 14 rfl rfl
theorem dX7_has_37 : decode cX7_has 37 = .ok (.aload_n 0, 1) := dqr0 dqK_42 dqw_cX7_has_22 15 rfl rfl
theorem dX7_has_38 : decode cX7_has 38 = .ok (.iload_n 1, 1) := dqr0 dqK_27 dqw_cX7_has_22 16 rfl rfl
theorem dX7_has_39 : decode cX7_has 39 = .ok (.iload_n 2, 1) := dqr0 dqK_28 dqw_cX7_has_22 17 rfl rfl
theorem dX7_has_40 : decode cX7_has 40 = .ok (.iload_n 3, 1) := dqr0 dqK_29 dqw_cX7_has_22 18 rfl rfl
theorem dX7_has_41 : decode cX7_has 41 = .ok (.aload_n 0, 1) := dqr0 dqK_42 dqw_cX7_has_22 19 rfl rfl
theorem dX7_has_42 : decode cX7_has 42 = .ok (.iload 4, 2) := dqr1 dqK_21 dqw_cX7_has_22 20 rfl rfl rfl
theorem dqw_cX7_has_44 : dqLF cX7_has 44 [182, 1, 73, 182, 1, 66, 153, 0, 7, 4, 167, 0, 4, 3, 172] := by decide +kernel
theorem dX7_has_44 : decode cX7_has 44 = .ok (.invokevirtual 329, 3) := dqr2 dqK_182 dqw_cX7_has_44 0 rfl rfl rfl rfl rfl
theorem dX7_has_47 : decode cX7_has 47 = .ok (.invokevirtual 322, 3) := dqr2 dqK_182 dqw_cX7_has_44 3 rfl rfl rfl rfl rfl
theorem dX7_has_50 : decode cX7_has 50 = .ok (.ifCond .eq 7, 3) := dqrs2 dqK_153 dqw_cX7_has_44 6 rfl rfl rfl rfl (by decide)
theorem dX7_has_53 : decode cX7_has 53 = .ok (.iconst 1, 1) := dqr0 dqK_4 dqw_cX7_has_44 9 rfl rfl
theorem dX7_has_54 : decode cX7_has 54 = .ok (.goto 4, 3) := dqrs2 dqK_167 dqw_cX7_has_44 10 rfl rfl rfl rfl (by decide)
theorem dX7_has_57 : decode cX7_has 57 = .ok (.iconst 0, 1) := dqr0 dqK_3 dqw_cX7_has_44 13 rfl rfl
theorem dX7_has_58 : decode cX7_has 58 = .ok (.ireturn, 1) := dqr0 dqK_172 dqw_cX7_has_44 14 rfl rfl
theorem dqw_cX7_stock_0 : dqLF cX7_stock 0 [42, 27, 182, 1, 4, 153, 0, 11, 42, 29, 182, 1, 70, 154, 0, 5, 2, 172, 28, 184, 1, 7] := by decide +kernel
theorem dX7_stock_0 : decode cX7_stock 0 = .ok (.aload_n 0, 1) := dqr0 dqK_42 dqw_cX7_stock_0 0 rfl rfl
theorem dX7_stock_1 : decode cX7_stock 1 = .ok (.iload_n 1, 1) := dqr0 dqK_27 dqw_cX7_stock_0 1 rfl rfl
theorem dX7_stock_2 : decode cX7_stock 2 = .ok (.invokevirtual 260, 3) := dqr2 dqK_182 dqw_cX7_stock_0 2 rfl rfl rfl rfl rfl
theorem dX7_stock_5 : decode cX7_stock 5 = .ok (.ifCond .eq 11, 3) := dqrs2 dqK_153 dqw_cX7_stock_0 5 rfl rfl rfl rfl (by decide)
theorem dX7_stock_8 : decode cX7_stock 8 = .ok (.aload_n 0, 1) := dqr0 dqK_42 dqw_cX7_stock_0 8 rfl rfl
theorem dX7_stock_9 : decode cX7_stock 9 = .ok (.iload_n 3, 1) := dqr0 dqK_29 dqw_cX7_stock_0 9 rfl rfl
theorem dX7_stock_10 : decode cX7_stock 10 = .ok (.invokevirtual 326, 3) := dqr2 dqK_182 dqw_cX7_stock_0 10 rfl rfl rfl rfl rfl
theorem dX7_stock_13 : decode cX7_stock 13 = .ok (.ifCond .ne 5, 3) := dqrs2 dqK_154 dqw_cX7_stock_0 13 rfl rfl rfl rfl (by decide)
theorem dX7_stock_16 : decode cX7_stock 16 = .ok (.iconst (-1), 1) := dqr0 dqK_2 dqw_cX7_stock_0 16 rfl rfl
theorem dX7_stock_17 : decode cX7_stock 17 = .ok (.ireturn, 1) := dqr0 dqK_172 dqw_cX7_stock_0 17 rfl rfl
theorem dX7_stock_18 : decode cX7_stock 18 = .ok (.iload_n 2, 1) := dqr0 dqK_28 dqw_cX7_stock_0 18 rfl rfl
theorem dX7_stock_19 : decode cX7_stock 19 = .ok (.invokestatic 263, 3) := dqr2 dqK_184 dqw_cX7_stock_0 19 rfl rfl rfl rfl rfl
theorem dqw_cX7_stock_22 : dqLF cX7_stock 22 [154, 0, 6, 16, 254, 172, 3, 54, 4, 3, 54, 5, 21, 5, 42, 180, 0, 147, 162, 0, 35, 21, 4, 42] := by decide +kernel
theorem dX7_stock_22 : decode cX7_stock 22 = .ok (.ifCond .ne 6, 3) := dqrs2 dqK_154 dqw_cX7_stock_22 0 rfl rfl rfl rfl (by decide)
theorem dX7_stock_25 : decode cX7_stock 25 = .ok (.bipush (-2), 2) := dqrs1 dqK_16 dqw_cX7_stock_22 3 rfl rfl rfl (by decide)
theorem dX7_stock_27 : decode cX7_stock 27 = .ok (.ireturn, 1) := dqr0 dqK_172 dqw_cX7_stock_22 5 rfl rfl
theorem dX7_stock_28 : decode cX7_stock 28 = .ok (.iconst 0, 1) := dqr0 dqK_3 dqw_cX7_stock_22 6 rfl rfl
theorem dX7_stock_29 : decode cX7_stock 29 = .ok (.istore 4, 2) := dqr1 dqK_54 dqw_cX7_stock_22 7 rfl rfl rfl
theorem dX7_stock_31 : decode cX7_stock 31 = .ok (.iconst 0, 1) := dqr0 dqK_3 dqw_cX7_stock_22 9 rfl rfl
theorem dX7_stock_32 : decode cX7_stock 32 = .ok (.istore 5, 2) := dqr1 dqK_54 dqw_cX7_stock_22 10 rfl rfl rfl
theorem dX7_stock_34 : decode cX7_stock 34 = .ok (.iload 5, 2) := dqr1 dqK_21 dqw_cX7_stock_22 12 rfl rfl rfl
theorem dX7_stock_36 : decode cX7_stock 36 = .ok (.aload_n 0, 1) := dqr0 dqK_42 dqw_cX7_stock_22 14 rfl rfl
theorem dX7_stock_37 : decode cX7_stock 37 = .ok (.getfield 147, 3) := dqr2 dqK_180 dqw_cX7_stock_22 15 rfl rfl rfl rfl rfl
theorem dX7_stock_40 : decode cX7_stock 40 = .ok (.if_icmp .ge 35, 3) := dqrs2 dqK_162 dqw_cX7_stock_22 18 rfl rfl rfl rfl (by decide)
theorem dX7_stock_43 : decode cX7_stock 43 = .ok (.iload 4, 2) := dqr1 dqK_21 dqw_cX7_stock_22 21 rfl rfl rfl
theorem dX7_stock_45 : decode cX7_stock 45 = .ok (.aload_n 0, 1) := dqr0 dqK_42 dqw_cX7_stock_22 23 rfl rfl
theorem dqw_cX7_stock_46 : dqLF cX7_stock 46 [27, 21, 5, 28, 42, 29, 182, 1, 73, 182, 1, 66, 153, 0, 7, 4, 167, 0, 4, 3, 96, 54, 4] := by decide +kernel
theorem dX7_stock_46 : decode cX7_stock 46 = .ok (.iload_n 1, 1) := dqr0 dqK_27 dqw_cX7_stock_46 0 rfl rfl
theorem dX7_stock_47 : decode cX7_stock 47 = .ok (.iload 5, 2) := dqr1 dqK_21 dqw_cX7_stock_46 1 rfl rfl rfl
theorem dX7_stock_49 : decode cX7_stock 49 = .ok (.iload_n 2, 1) := dqr0 dqK_28 dqw_cX7_stock_46 3 rfl rfl
theorem dX7_stock_50 : decode cX7_stock 50 = .ok (.aload_n 0, 1) := dqr0 dqK_42 dqw_cX7_stock_46 4 rfl rfl
theorem dX7_stock_51 : decode cX7_stock 51 = .ok (.iload_n 3, 1) := dqr0 dqK_29 dqw_cX7_stock_46 5 rfl rfl
theorem dX7_stock_52 : decode cX7_stock 52 = .ok (.invokevirtual 329, 3) := dqr2 dqK_182 dqw_cX7_stock_46 6 rfl rfl rfl rfl rfl
theorem dX7_stock_55 : decode cX7_stock 55 = .ok (.invokevirtual 322, 3) := dqr2 dqK_182 dqw_cX7_stock_46 9 rfl rfl rfl rfl rfl
theorem dX7_stock_58 : decode cX7_stock 58 = .ok (.ifCond .eq 7, 3) := dqrs2 dqK_153 dqw_cX7_stock_46 12 rfl rfl rfl rfl (by decide)
theorem dX7_stock_61 : decode cX7_stock 61 = .ok (.iconst 1, 1) := dqr0 dqK_4 dqw_cX7_stock_46 15 rfl rfl
theorem dX7_stock_62 : decode cX7_stock 62 = .ok (.goto 4, 3) := dqrs2 dqK_167 dqw_cX7_stock_46 16 rfl rfl rfl rfl (by decide)
theorem dX7_stock_65 : decode cX7_stock 65 = .ok (.iconst 0, 1) := dqr0 dqK_3 dqw_cX7_stock_46 19 rfl rfl
theorem dX7_stock_66 : decode cX7_stock 66 = .ok (.iadd, 1) := dqr0 dqK_96 dqw_cX7_stock_46 20 rfl rfl
theorem dX7_stock_67 : decode cX7_stock 67 = .ok (.istore 4, 2) := dqr1 dqK_54 dqw_cX7_stock_46 21 rfl rfl rfl
theorem dqw_cX7_stock_69 : dqLF cX7_stock 69 [132, 5, 1, 167, 255, 218, 21, 4, 172] := by decide +kernel
theorem dX7_stock_69 : decode cX7_stock 69 = .ok (.iinc 5 1, 3) := dqri dqK_132 dqw_cX7_stock_69 0 rfl rfl rfl rfl (by decide)
theorem dX7_stock_72 : decode cX7_stock 72 = .ok (.goto (-38), 3) := dqrs2 dqK_167 dqw_cX7_stock_69 3 rfl rfl rfl rfl (by decide)
theorem dX7_stock_75 : decode cX7_stock 75 = .ok (.iload 4, 2) := dqr1 dqK_21 dqw_cX7_stock_69 6 rfl rfl rfl
theorem dX7_stock_77 : decode cX7_stock 77 = .ok (.ireturn, 1) := dqr0 dqK_172 dqw_cX7_stock_69 8 rfl rfl
theorem dqw_cX7_unlikeBy_0 : dqLF cX7_unlikeBy 0 [3, 54, 5, 3, 54, 6, 21, 6, 42, 180, 0, 147, 162, 0, 42, 21, 5, 42, 27, 21, 6, 29, 21, 4] := by decide +kernel
theorem dX7_unlikeBy_0 : decode cX7_unlikeBy 0 = .ok (.iconst 0, 1) := dqr0 dqK_3 dqw_cX7_unlikeBy_0 0 rfl rfl
theorem dX7_unlikeBy_1 : decode cX7_unlikeBy 1 = .ok (.istore 5, 2) := dqr1 dqK_54 dqw_cX7_unlikeBy_0 1 rfl rfl rfl
theorem dX7_unlikeBy_3 : decode cX7_unlikeBy 3 = .ok (.iconst 0, 1) := dqr0 dqK_3 dqw_cX7_unlikeBy_0 3 rfl rfl
theorem dX7_unlikeBy_4 : decode cX7_unlikeBy 4 = .ok (.istore 6, 2) := dqr1 dqK_54 dqw_cX7_unlikeBy_0 4 rfl rfl rfl
theorem dX7_unlikeBy_6 : decode cX7_unlikeBy 6 = .ok (.iload 6, 2) := dqr1 dqK_21 dqw_cX7_unlikeBy_0 6 rfl rfl rfl
theorem dX7_unlikeBy_8 : decode cX7_unlikeBy 8 = .ok (.aload_n 0, 1) := dqr0 dqK_42 dqw_cX7_unlikeBy_0 8 rfl rfl
theorem dX7_unlikeBy_9 : decode cX7_unlikeBy 9 = .ok (.getfield 147, 3) := dqr2 dqK_180 dqw_cX7_unlikeBy_0 9 rfl rfl rfl rfl rfl
theorem dX7_unlikeBy_12 : decode cX7_unlikeBy 12 = .ok (.if_icmp .ge 42, 3) := dqrs2 dqK_162 dqw_cX7_unlikeBy_0 12 rfl rfl rfl rfl (by decide)
theorem dX7_unlikeBy_15 : decode cX7_unlikeBy 15 = .ok (.iload 5, 2) := dqr1 dqK_21 dqw_cX7_unlikeBy_0 15 rfl rfl rfl
theorem dX7_unlikeBy_17 : decode cX7_unlikeBy 17 = .ok (.aload_n 0, 1) := dqr0 dqK_42 dqw_cX7_unlikeBy_0 17 rfl rfl
theorem dX7_unlikeBy_18 : decode cX7_unlikeBy 18 = .ok (.iload_n 1, 1) := dqr0 dqK_27 dqw_cX7_unlikeBy_0 18 rfl rfl
theorem dX7_unlikeBy_19 : decode cX7_unlikeBy 19 = .ok (.iload 6, 2) := dqr1 dqK_21 dqw_cX7_unlikeBy_0 19 rfl rfl rfl
theorem dX7_unlikeBy_21 : decode cX7_unlikeBy 21 = .ok (.iload_n 3, 1) := dqr0 dqK_29 dqw_cX7_unlikeBy_0 21 rfl rfl
theorem dX7_unlikeBy_22 : decode cX7_unlikeBy 22 = .ok (.iload 4, 2) := dqr1 dqK_21 dqw_cX7_unlikeBy_0 22 rfl rfl rfl
theorem dqw_cX7_unlikeBy_24 : dqLF cX7_unlikeBy 24 [182, 1, 66, 42, 28, 21, 6, 29, 21, 4, 182, 1, 66, 159, 0, 7, 4, 167, 0, 4, 3, 96, 54, 5] := by decide +kernel
theorem dX7_unlikeBy_24 : decode cX7_unlikeBy 24 = .ok (.invokevirtual 322, 3) := dqr2 dqK_182 dqw_cX7_unlikeBy_24 0 rfl rfl rfl rfl rfl
theorem dX7_unlikeBy_27 : decode cX7_unlikeBy 27 = .ok (.aload_n 0, 1) := dqr0 dqK_42 dqw_cX7_unlikeBy_24 3 rfl rfl
theorem dX7_unlikeBy_28 : decode cX7_unlikeBy 28 = .ok (.iload_n 2, 1) := dqr0 dqK_28 dqw_cX7_unlikeBy_24 4 rfl rfl
theorem dX7_unlikeBy_29 : decode cX7_unlikeBy 29 = .ok (.iload 6, 2) := dqr1 dqK_21 dqw_cX7_unlikeBy_24 5 rfl rfl rfl
theorem dX7_unlikeBy_31 : decode cX7_unlikeBy 31 = .ok (.iload_n 3, 1) := dqr0 dqK_29 dqw_cX7_unlikeBy_24 7 rfl rfl
theorem dX7_unlikeBy_32 : decode cX7_unlikeBy 32 = .ok (.iload 4, 2) := dqr1 dqK_21 dqw_cX7_unlikeBy_24 8 rfl rfl rfl
theorem dX7_unlikeBy_34 : decode cX7_unlikeBy 34 = .ok (.invokevirtual 322, 3) := dqr2 dqK_182 dqw_cX7_unlikeBy_24 10 rfl rfl rfl rfl rfl
theorem dX7_unlikeBy_37 : decode cX7_unlikeBy 37 = .ok (.if_icmp .eq 7, 3) := dqrs2 dqK_159 dqw_cX7_unlikeBy_24 13 rfl rfl rfl rfl (by decide)
theorem dX7_unlikeBy_40 : decode cX7_unlikeBy 40 = .ok (.iconst 1, 1) := dqr0 dqK_4 dqw_cX7_unlikeBy_24 16 rfl rfl
theorem dX7_unlikeBy_41 : decode cX7_unlikeBy 41 = .ok (.goto 4, 3) := dqrs2 dqK_167 dqw_cX7_unlikeBy_24 17 rfl rfl rfl rfl (by decide)
theorem dX7_unlikeBy_44 : decode cX7_unlikeBy 44 = .ok (.iconst 0, 1) := dqr0 dqK_3 dqw_cX7_unlikeBy_24 20 rfl rfl
theorem dX7_unlikeBy_45 : decode cX7_unlikeBy 45 = .ok (.iadd, 1) := dqr0 dqK_96 dqw_cX7_unlikeBy_24 21 rfl rfl
theorem dX7_unlikeBy_46 : decode cX7_unlikeBy 46 = .ok (.istore 5, 2) := dqr1 dqK_54 dqw_cX7_unlikeBy_24 22 rfl rfl rfl
theorem dqw_cX7_unlikeBy_48 : dqLF cX7_unlikeBy 48 [132, 6, 1, 167, 255, 211, 21, 5, 172] := by decide +kernel
theorem dX7_unlikeBy_48 : decode cX7_unlikeBy 48 = .ok (.iinc 6 1, 3) := dqri dqK_132 dqw_cX7_unlikeBy_48 0 rfl rfl rfl rfl (by decide)
theorem dX7_unlikeBy_51 : decode cX7_unlikeBy 51 = .ok (.goto (-45), 3) := dqrs2 dqK_167 dqw_cX7_unlikeBy_48 3 rfl rfl rfl rfl (by decide)
theorem dX7_unlikeBy_54 : decode cX7_unlikeBy 54 = .ok (.iload 5, 2) := dqr1 dqK_21 dqw_cX7_unlikeBy_48 6 rfl rfl rfl
theorem dX7_unlikeBy_56 : decode cX7_unlikeBy 56 = .ok (.ireturn, 1) := dqr0 dqK_172 dqw_cX7_unlikeBy_48 8 rfl rfl
theorem dqw_cX7_unlike_0 : dqLF cX7_unlike 0 [42, 27, 182, 1, 4, 153, 0, 20, 42, 28, 182, 1, 4, 153, 0, 12, 42, 21, 4, 182, 1, 70] := by decide +kernel
theorem dX7_unlike_0 : decode cX7_unlike 0 = .ok (.aload_n 0, 1) := dqr0 dqK_42 dqw_cX7_unlike_0 0 rfl rfl
theorem dX7_unlike_1 : decode cX7_unlike 1 = .ok (.iload_n 1, 1) := dqr0 dqK_27 dqw_cX7_unlike_0 1 rfl rfl
theorem dX7_unlike_2 : decode cX7_unlike 2 = .ok (.invokevirtual 260, 3) := dqr2 dqK_182 dqw_cX7_unlike_0 2 rfl rfl rfl rfl rfl
theorem dX7_unlike_5 : decode cX7_unlike 5 = .ok (.ifCond .eq 20, 3) := dqrs2 dqK_153 dqw_cX7_unlike_0 5 rfl rfl rfl rfl (by decide)
theorem dX7_unlike_8 : decode cX7_unlike 8 = .ok (.aload_n 0, 1) := dqr0 dqK_42 dqw_cX7_unlike_0 8 rfl rfl
theorem dX7_unlike_9 : decode cX7_unlike 9 = .ok (.iload_n 2, 1) := dqr0 dqK_28 dqw_cX7_unlike_0 9 rfl rfl
theorem dX7_unlike_10 : decode cX7_unlike 10 = .ok (.invokevirtual 260, 3) := dqr2 dqK_182 dqw_cX7_unlike_0 10 rfl rfl rfl rfl rfl
theorem dX7_unlike_13 : decode cX7_unlike 13 = .ok (.ifCond .eq 12, 3) := dqrs2 dqK_153 dqw_cX7_unlike_0 13 rfl rfl rfl rfl (by decide)
theorem dX7_unlike_16 : decode cX7_unlike 16 = .ok (.aload_n 0, 1) := dqr0 dqK_42 dqw_cX7_unlike_0 16 rfl rfl
theorem dX7_unlike_17 : decode cX7_unlike 17 = .ok (.iload 4, 2) := dqr1 dqK_21 dqw_cX7_unlike_0 17 rfl rfl rfl
theorem dX7_unlike_19 : decode cX7_unlike 19 = .ok (.invokevirtual 326, 3) := dqr2 dqK_182 dqw_cX7_unlike_0 19 rfl rfl rfl rfl rfl
theorem dqw_cX7_unlike_22 : dqLF cX7_unlike 22 [154, 0, 5, 2, 172, 29, 184, 1, 7, 153, 0, 19, 42, 27, 28, 29, 42, 21, 4, 182, 1, 73] := by decide +kernel
theorem dX7_unlike_22 : decode cX7_unlike 22 = .ok (.ifCond .ne 5, 3) := dqrs2 dqK_154 dqw_cX7_unlike_22 0 rfl rfl rfl rfl (by decide)
theorem dX7_unlike_25 : decode cX7_unlike 25 = .ok (.iconst (-1), 1) := dqr0 dqK_2 dqw_cX7_unlike_22 3 rfl rfl
theorem dX7_unlike_26 : decode cX7_unlike 26 = .ok (.ireturn, 1) := dqr0 dqK_172 dqw_cX7_unlike_22 4 rfl rfl
theorem dX7_unlike_27 : decode cX7_unlike 27 = .ok (.iload_n 3, 1) := dqr0 dqK_29 dqw_cX7_unlike_22 5 rfl rfl
theorem dX7_unlike_28 : decode cX7_unlike 28 = .ok (.invokestatic 263, 3) := dqr2 dqK_184 dqw_cX7_unlike_22 6 rfl rfl rfl rfl rfl
theorem dX7_unlike_31 : decode cX7_unlike 31 = .ok (.ifCond .eq 19, 3) := dqrs2 dqK_153 dqw_cX7_unlike_22 9 rfl rfl rfl rfl (by decide)
theorem dX7_unlike_34 : decode cX7_unlike 34 = .ok (.aload_n 0, 1) := dqr0 dqK_42 dqw_cX7_unlike_22 12 rfl rfl
theorem dX7_unlike_35 : decode cX7_unlike 35 = .ok (.iload_n 1, 1) := dqr0 dqK_27 dqw_cX7_unlike_22 13 rfl rfl
theorem dX7_unlike_36 : decode cX7_unlike 36 = .ok (.iload_n 2, 1) := dqr0 dqK_28 dqw_cX7_unlike_22 14 rfl rfl
theorem dX7_unlike_37 : decode cX7_unlike 37 = .ok (.iload_n 3, 1) := dqr0 dqK_29 dqw_cX7_unlike_22 15 rfl rfl
theorem dX7_unlike_38 : decode cX7_unlike 38 = .ok (.aload_n 0, 1) := dqr0 dqK_42 dqw_cX7_unlike_22 16 rfl rfl
theorem dX7_unlike_39 : decode cX7_unlike 39 = .ok (.iload 4, 2) := dqr1 dqK_21 dqw_cX7_unlike_22 17 rfl rfl rfl
theorem dX7_unlike_41 : decode cX7_unlike 41 = .ok (.invokevirtual 329, 3) := dqr2 dqK_182 dqw_cX7_unlike_22 19 rfl rfl rfl rfl rfl
theorem dqw_cX7_unlike_44 : dqLF cX7_unlike 44 [182, 1, 76, 167, 0, 5, 16, 254, 172] := by decide +kernel
theorem dX7_unlike_44 : decode cX7_unlike 44 = .ok (.invokevirtual 332, 3) := dqr2 dqK_182 dqw_cX7_unlike_44 0 rfl rfl rfl rfl rfl
theorem dX7_unlike_47 : decode cX7_unlike 47 = .ok (.goto 5, 3) := dqrs2 dqK_167 dqw_cX7_unlike_44 3 rfl rfl rfl rfl (by decide)
theorem dX7_unlike_50 : decode cX7_unlike 50 = .ok (.bipush (-2), 2) := dqrs1 dqK_16 dqw_cX7_unlike_44 6 rfl rfl rfl (by decide)
theorem dX7_unlike_52 : decode cX7_unlike 52 = .ok (.ireturn, 1) := dqr0 dqK_172 dqw_cX7_unlike_44 8 rfl rfl
theorem dqw_cX7_masterOf_0 : dqLF cX7_masterOf 0 [2, 54, 4, 3, 54, 5, 3, 54, 6, 21, 6, 42, 180, 1, 57, 162, 0, 86, 42, 180, 0, 107, 21, 6] := by decide +kernel
theorem dX7_masterOf_0 : decode cX7_masterOf 0 = .ok (.iconst (-1), 1) := dqr0 dqK_2 dqw_cX7_masterOf_0 0 rfl rfl
theorem dX7_masterOf_1 : decode cX7_masterOf 1 = .ok (.istore 4, 2) := dqr1 dqK_54 dqw_cX7_masterOf_0 1 rfl rfl rfl
theorem dX7_masterOf_3 : decode cX7_masterOf 3 = .ok (.iconst 0, 1) := dqr0 dqK_3 dqw_cX7_masterOf_0 3 rfl rfl
theorem dX7_masterOf_4 : decode cX7_masterOf 4 = .ok (.istore 5, 2) := dqr1 dqK_54 dqw_cX7_masterOf_0 4 rfl rfl rfl
theorem dX7_masterOf_6 : decode cX7_masterOf 6 = .ok (.iconst 0, 1) := dqr0 dqK_3 dqw_cX7_masterOf_0 6 rfl rfl
theorem dX7_masterOf_7 : decode cX7_masterOf 7 = .ok (.istore 6, 2) := dqr1 dqK_54 dqw_cX7_masterOf_0 7 rfl rfl rfl
theorem dX7_masterOf_9 : decode cX7_masterOf 9 = .ok (.iload 6, 2) := dqr1 dqK_21 dqw_cX7_masterOf_0 9 rfl rfl rfl
theorem dX7_masterOf_11 : decode cX7_masterOf 11 = .ok (.aload_n 0, 1) := dqr0 dqK_42 dqw_cX7_masterOf_0 11 rfl rfl
theorem dX7_masterOf_12 : decode cX7_masterOf 12 = .ok (.getfield 313, 3) := dqr2 dqK_180 dqw_cX7_masterOf_0 12 rfl rfl rfl rfl rfl
theorem dX7_masterOf_15 : decode cX7_masterOf 15 = .ok (.if_icmp .ge 86, 3) := dqrs2 dqK_162 dqw_cX7_masterOf_0 15 rfl rfl rfl rfl (by decide)
theorem dX7_masterOf_18 : decode cX7_masterOf 18 = .ok (.aload_n 0, 1) := dqr0 dqK_42 dqw_cX7_masterOf_0 18 rfl rfl
theorem dX7_masterOf_19 : decode cX7_masterOf 19 = .ok (.getfield 107, 3) := dqr2 dqK_180 dqw_cX7_masterOf_0 19 rfl rfl rfl rfl rfl
theorem dX7_masterOf_22 : decode cX7_masterOf 22 = .ok (.iload 6, 2) := dqr1 dqK_21 dqw_cX7_masterOf_0 22 rfl rfl rfl
theorem dqw_cX7_masterOf_24 : dqLF cX7_masterOf 24 [46, 42, 180, 0, 107, 27, 46, 161, 0, 6, 167, 0, 61, 42, 27, 21, 6, 28, 29, 182, 1, 76, 54, 7] := by decide +kernel
theorem dX7_masterOf_24 : decode cX7_masterOf 24 = .ok (.iaload, 1) := dqr0 dqK_46 dqw_cX7_masterOf_24 0 rfl rfl
theorem dX7_masterOf_25 : decode cX7_masterOf 25 = .ok (.aload_n 0, 1) := dqr0 dqK_42 dqw_cX7_masterOf_24 1 rfl rfl
theorem dX7_masterOf_26 : decode cX7_masterOf 26 = .ok (.getfield 107, 3) := dqr2 dqK_180 dqw_cX7_masterOf_24 2 rfl rfl rfl rfl rfl
theorem dX7_masterOf_29 : decode cX7_masterOf 29 = .ok (.iload_n 1, 1) := dqr0 dqK_27 dqw_cX7_masterOf_24 5 rfl rfl
theorem dX7_masterOf_30 : decode cX7_masterOf 30 = .ok (.iaload, 1) := dqr0 dqK_46 dqw_cX7_masterOf_24 6 rfl rfl
theorem dX7_masterOf_31 : decode cX7_masterOf 31 = .ok (.if_icmp .lt 6, 3) := dqrs2 dqK_161 dqw_cX7_masterOf_24 7 rfl rfl rfl rfl (by decide)
theorem dX7_masterOf_34 : decode cX7_masterOf 34 = .ok (.goto 61, 3) := dqrs2 dqK_167 dqw_cX7_masterOf_24 10 rfl rfl rfl rfl (by decide)
theorem dX7_masterOf_37 : decode cX7_masterOf 37 = .ok (.aload_n 0, 1) := dqr0 dqK_42 dqw_cX7_masterOf_24 13 rfl rfl
theorem dX7_masterOf_38 : decode cX7_masterOf 38 = .ok (.iload_n 1, 1) := dqr0 dqK_27 dqw_cX7_masterOf_24 14 rfl rfl
theorem dX7_masterOf_39 : decode cX7_masterOf 39 = .ok (.iload 6, 2) := dqr1 dqK_21 dqw_cX7_masterOf_24 15 rfl rfl rfl
theorem dX7_masterOf_41 : decode cX7_masterOf 41 = .ok (.iload_n 2, 1) := dqr0 dqK_28 dqw_cX7_masterOf_24 17 rfl rfl
theorem dX7_masterOf_42 : decode cX7_masterOf 42 = .ok (.iload_n 3, 1) := dqr0 dqK_29 dqw_cX7_masterOf_24 18 rfl rfl
theorem dX7_masterOf_43 : decode cX7_masterOf 43 = .ok (.invokevirtual 332, 3) := dqr2 dqK_182 dqw_cX7_masterOf_24 19 rfl rfl rfl rfl rfl
theorem dX7_masterOf_46 : decode cX7_masterOf 46 = .ok (.istore 7, 2) := dqr1 dqK_54 dqw_cX7_masterOf_24 22 rfl rfl rfl
theorem dqw_cX7_masterOf_48 : dqLF cX7_masterOf 48 [21, 4, 155, 0, 37, 21, 7, 21, 5, 163, 0, 38, 21, 7, 21, 5, 160, 0, 23, 42, 180, 0, 107] := by decide +kernel
theorem dX7_masterOf_48 : decode cX7_masterOf 48 = .ok (.iload 4, 2) := dqr1 dqK_21 dqw_cX7_masterOf_48 0 rfl rfl rfl
theorem dX7_masterOf_50 : decode cX7_masterOf 50 = .ok (.ifCond .lt 37, 3) := dqrs2 dqK_155 dqw_cX7_masterOf_48 2 rfl rfl rfl rfl (by decide)
theorem dX7_masterOf_53 : decode cX7_masterOf 53 = .ok (.iload 7, 2) := dqr1 dqK_21 dqw_cX7_masterOf_48 5 rfl rfl rfl
theorem dX7_masterOf_55 : decode cX7_masterOf 55 = .ok (.iload 5, 2) := dqr1 dqK_21 dqw_cX7_masterOf_48 7 rfl rfl rfl
theorem dX7_masterOf_57 : decode cX7_masterOf 57 = .ok (.if_icmp .gt 38, 3) := dqrs2 dqK_163 dqw_cX7_masterOf_48 9 rfl rfl rfl rfl (by decide)
theorem dX7_masterOf_60 : decode cX7_masterOf 60 = .ok (.iload 7, 2) := dqr1 dqK_21 dqw_cX7_masterOf_48 12 rfl rfl rfl
theorem dX7_masterOf_62 : decode cX7_masterOf 62 = .ok (.iload 5, 2) := dqr1 dqK_21 dqw_cX7_masterOf_48 14 rfl rfl rfl
theorem dX7_masterOf_64 : decode cX7_masterOf 64 = .ok (.if_icmp .ne 23, 3) := dqrs2 dqK_160 dqw_cX7_masterOf_48 16 rfl rfl rfl rfl (by decide)
theorem dX7_masterOf_67 : decode cX7_masterOf 67 = .ok (.aload_n 0, 1) := dqr0 dqK_42 dqw_cX7_masterOf_48 19 rfl rfl
theorem dX7_masterOf_68 : decode cX7_masterOf 68 = .ok (.getfield 107, 3) := dqr2 dqK_180 dqw_cX7_masterOf_48 20 rfl rfl rfl rfl rfl
theorem dqw_cX7_masterOf_71 : dqLF cX7_masterOf 71 [21, 6, 46, 42, 180, 0, 107, 21, 4, 46, 163, 0, 6, 167, 0, 11, 21, 6, 54, 4, 21, 7, 54, 5] := by decide +kernel
theorem dX7_masterOf_71 : decode cX7_masterOf 71 = .ok (.iload 6, 2) := dqr1 dqK_21 dqw_cX7_masterOf_71 0 rfl rfl rfl
theorem dX7_masterOf_73 : decode cX7_masterOf 73 = .ok (.iaload, 1) := dqr0 dqK_46 dqw_cX7_masterOf_71 2 rfl rfl
theorem dX7_masterOf_74 : decode cX7_masterOf 74 = .ok (.aload_n 0, 1) := dqr0 dqK_42 dqw_cX7_masterOf_71 3 rfl rfl
theorem dX7_masterOf_75 : decode cX7_masterOf 75 = .ok (.getfield 107, 3) := dqr2 dqK_180 dqw_cX7_masterOf_71 4 rfl rfl rfl rfl rfl
theorem dX7_masterOf_78 : decode cX7_masterOf 78 = .ok (.iload 4, 2) := dqr1 dqK_21 dqw_cX7_masterOf_71 7 rfl rfl rfl
theorem dX7_masterOf_80 : decode cX7_masterOf 80 = .ok (.iaload, 1) := dqr0 dqK_46 dqw_cX7_masterOf_71 9 rfl rfl
theorem dX7_masterOf_81 : decode cX7_masterOf 81 = .ok (.if_icmp .gt 6, 3) := dqrs2 dqK_163 dqw_cX7_masterOf_71 10 rfl rfl rfl rfl (by decide)
theorem dX7_masterOf_84 : decode cX7_masterOf 84 = .ok (.goto 11, 3) := dqrs2 dqK_167 dqw_cX7_masterOf_71 13 rfl rfl rfl rfl (by decide)
theorem dX7_masterOf_87 : decode cX7_masterOf 87 = .ok (.iload 6, 2) := dqr1 dqK_21 dqw_cX7_masterOf_71 16 rfl rfl rfl
theorem dX7_masterOf_89 : decode cX7_masterOf 89 = .ok (.istore 4, 2) := dqr1 dqK_54 dqw_cX7_masterOf_71 18 rfl rfl rfl
theorem dX7_masterOf_91 : decode cX7_masterOf 91 = .ok (.iload 7, 2) := dqr1 dqK_21 dqw_cX7_masterOf_71 20 rfl rfl rfl
theorem dX7_masterOf_93 : decode cX7_masterOf 93 = .ok (.istore 5, 2) := dqr1 dqK_54 dqw_cX7_masterOf_71 22 rfl rfl rfl
theorem dqw_cX7_masterOf_95 : dqLF cX7_masterOf 95 [132, 6, 1, 167, 255, 167, 21, 4, 172] := by decide +kernel
theorem dX7_masterOf_95 : decode cX7_masterOf 95 = .ok (.iinc 6 1, 3) := dqri dqK_132 dqw_cX7_masterOf_95 0 rfl rfl rfl rfl (by decide)
theorem dX7_masterOf_98 : decode cX7_masterOf 98 = .ok (.goto (-89), 3) := dqrs2 dqK_167 dqw_cX7_masterOf_95 3 rfl rfl rfl rfl (by decide)
theorem dX7_masterOf_101 : decode cX7_masterOf 101 = .ok (.iload 4, 2) := dqr1 dqK_21 dqw_cX7_masterOf_95 6 rfl rfl rfl
theorem dX7_masterOf_103 : decode cX7_masterOf 103 = .ok (.ireturn, 1) := dqr0 dqK_172 dqw_cX7_masterOf_95 8 rfl rfl
theorem dqw_cX7_master_0 : dqLF cX7_master 0 [42, 27, 182, 1, 4, 153, 0, 11, 42, 29, 182, 1, 70, 154, 0, 5, 2, 172, 28, 184, 1, 7] := by decide +kernel
theorem dX7_master_0 : decode cX7_master 0 = .ok (.aload_n 0, 1) := dqr0 dqK_42 dqw_cX7_master_0 0 rfl rfl
theorem dX7_master_1 : decode cX7_master 1 = .ok (.iload_n 1, 1) := dqr0 dqK_27 dqw_cX7_master_0 1 rfl rfl
theorem dX7_master_2 : decode cX7_master 2 = .ok (.invokevirtual 260, 3) := dqr2 dqK_182 dqw_cX7_master_0 2 rfl rfl rfl rfl rfl
theorem dX7_master_5 : decode cX7_master 5 = .ok (.ifCond .eq 11, 3) := dqrs2 dqK_153 dqw_cX7_master_0 5 rfl rfl rfl rfl (by decide)
theorem dX7_master_8 : decode cX7_master 8 = .ok (.aload_n 0, 1) := dqr0 dqK_42 dqw_cX7_master_0 8 rfl rfl
theorem dX7_master_9 : decode cX7_master 9 = .ok (.iload_n 3, 1) := dqr0 dqK_29 dqw_cX7_master_0 9 rfl rfl
theorem dX7_master_10 : decode cX7_master 10 = .ok (.invokevirtual 326, 3) := dqr2 dqK_182 dqw_cX7_master_0 10 rfl rfl rfl rfl rfl
theorem dX7_master_13 : decode cX7_master 13 = .ok (.ifCond .ne 5, 3) := dqrs2 dqK_154 dqw_cX7_master_0 13 rfl rfl rfl rfl (by decide)
theorem dX7_master_16 : decode cX7_master 16 = .ok (.iconst (-1), 1) := dqr0 dqK_2 dqw_cX7_master_0 16 rfl rfl
theorem dX7_master_17 : decode cX7_master 17 = .ok (.ireturn, 1) := dqr0 dqK_172 dqw_cX7_master_0 17 rfl rfl
theorem dX7_master_18 : decode cX7_master 18 = .ok (.iload_n 2, 1) := dqr0 dqK_28 dqw_cX7_master_0 18 rfl rfl
theorem dX7_master_19 : decode cX7_master 19 = .ok (.invokestatic 263, 3) := dqr2 dqK_184 dqw_cX7_master_0 19 rfl rfl rfl rfl rfl
theorem dqw_cX7_master_22 : dqLF cX7_master 22 [154, 0, 6, 16, 254, 172, 42, 27, 28, 42, 29, 182, 1, 73, 182, 1, 80, 54, 4, 21, 4, 156, 0, 8] := by decide +kernel
theorem dX7_master_22 : decode cX7_master 22 = .ok (.ifCond .ne 6, 3) := dqrs2 dqK_154 dqw_cX7_master_22 0 rfl rfl rfl rfl (by decide)
theorem dX7_master_25 : decode cX7_master 25 = .ok (.bipush (-2), 2) := dqrs1 dqK_16 dqw_cX7_master_22 3 rfl rfl rfl (by decide)
theorem dX7_master_27 : decode cX7_master 27 = .ok (.ireturn, 1) := dqr0 dqK_172 dqw_cX7_master_22 5 rfl rfl
theorem dX7_master_28 : decode cX7_master 28 = .ok (.aload_n 0, 1) := dqr0 dqK_42 dqw_cX7_master_22 6 rfl rfl
theorem dX7_master_29 : decode cX7_master 29 = .ok (.iload_n 1, 1) := dqr0 dqK_27 dqw_cX7_master_22 7 rfl rfl
theorem dX7_master_30 : decode cX7_master 30 = .ok (.iload_n 2, 1) := dqr0 dqK_28 dqw_cX7_master_22 8 rfl rfl
theorem dX7_master_31 : decode cX7_master 31 = .ok (.aload_n 0, 1) := dqr0 dqK_42 dqw_cX7_master_22 9 rfl rfl
theorem dX7_master_32 : decode cX7_master 32 = .ok (.iload_n 3, 1) := dqr0 dqK_29 dqw_cX7_master_22 10 rfl rfl
theorem dX7_master_33 : decode cX7_master 33 = .ok (.invokevirtual 329, 3) := dqr2 dqK_182 dqw_cX7_master_22 11 rfl rfl rfl rfl rfl
theorem dX7_master_36 : decode cX7_master 36 = .ok (.invokevirtual 336, 3) := dqr2 dqK_182 dqw_cX7_master_22 14 rfl rfl rfl rfl rfl
theorem dX7_master_39 : decode cX7_master 39 = .ok (.istore 4, 2) := dqr1 dqK_54 dqw_cX7_master_22 17 rfl rfl rfl
theorem dX7_master_41 : decode cX7_master 41 = .ok (.iload 4, 2) := dqr1 dqK_21 dqw_cX7_master_22 19 rfl rfl rfl
theorem dX7_master_43 : decode cX7_master 43 = .ok (.ifCond .ge 8, 3) := dqrs2 dqK_156 dqw_cX7_master_22 21 rfl rfl rfl rfl (by decide)
theorem dqw_cX7_master_46 : dqLF cX7_master 46 [16, 251, 167, 0, 5, 21, 4, 172] := by decide +kernel
theorem dX7_master_46 : decode cX7_master 46 = .ok (.bipush (-5), 2) := dqrs1 dqK_16 dqw_cX7_master_46 0 rfl rfl rfl (by decide)
theorem dX7_master_48 : decode cX7_master 48 = .ok (.goto 5, 3) := dqrs2 dqK_167 dqw_cX7_master_46 2 rfl rfl rfl rfl (by decide)
theorem dX7_master_51 : decode cX7_master 51 = .ok (.iload 4, 2) := dqr1 dqK_21 dqw_cX7_master_46 5 rfl rfl rfl
theorem dX7_master_53 : decode cX7_master 53 = .ok (.ireturn, 1) := dqr0 dqK_172 dqw_cX7_master_46 7 rfl rfl
theorem dqw_cX7_lineage_0 : dqLF cX7_lineage 0 [42, 28, 182, 1, 70, 154, 0, 5, 2, 172, 27, 184, 1, 7, 154, 0, 6, 16, 254, 172, 3, 62, 3] := by decide +kernel
theorem dX7_lineage_0 : decode cX7_lineage 0 = .ok (.aload_n 0, 1) := dqr0 dqK_42 dqw_cX7_lineage_0 0 rfl rfl
theorem dX7_lineage_1 : decode cX7_lineage 1 = .ok (.iload_n 2, 1) := dqr0 dqK_28 dqw_cX7_lineage_0 1 rfl rfl
theorem dX7_lineage_2 : decode cX7_lineage 2 = .ok (.invokevirtual 326, 3) := dqr2 dqK_182 dqw_cX7_lineage_0 2 rfl rfl rfl rfl rfl
theorem dX7_lineage_5 : decode cX7_lineage 5 = .ok (.ifCond .ne 5, 3) := dqrs2 dqK_154 dqw_cX7_lineage_0 5 rfl rfl rfl rfl (by decide)
theorem dX7_lineage_8 : decode cX7_lineage 8 = .ok (.iconst (-1), 1) := dqr0 dqK_2 dqw_cX7_lineage_0 8 rfl rfl
theorem dX7_lineage_9 : decode cX7_lineage 9 = .ok (.ireturn, 1) := dqr0 dqK_172 dqw_cX7_lineage_0 9 rfl rfl
theorem dX7_lineage_10 : decode cX7_lineage 10 = .ok (.iload_n 1, 1) := dqr0 dqK_27 dqw_cX7_lineage_0 10 rfl rfl
theorem dX7_lineage_11 : decode cX7_lineage 11 = .ok (.invokestatic 263, 3) := dqr2 dqK_184 dqw_cX7_lineage_0 11 rfl rfl rfl rfl rfl
theorem dX7_lineage_14 : decode cX7_lineage 14 = .ok (.ifCond .ne 6, 3) := dqrs2 dqK_154 dqw_cX7_lineage_0 14 rfl rfl rfl rfl (by decide)
theorem dX7_lineage_17 : decode cX7_lineage 17 = .ok (.bipush (-2), 2) := dqrs1 dqK_16 dqw_cX7_lineage_0 17 rfl rfl rfl (by decide)
theorem dX7_lineage_19 : decode cX7_lineage 19 = .ok (.ireturn, 1) := dqr0 dqK_172 dqw_cX7_lineage_0 19 rfl rfl
theorem dX7_lineage_20 : decode cX7_lineage 20 = .ok (.iconst 0, 1) := dqr0 dqK_3 dqw_cX7_lineage_0 20 rfl rfl
theorem dX7_lineage_21 : decode cX7_lineage 21 = .ok (.istore_n 3, 1) := dqr0 dqK_62 dqw_cX7_lineage_0 21 rfl rfl
theorem dX7_lineage_22 : decode cX7_lineage 22 = .ok (.iconst 0, 1) := dqr0 dqK_3 dqw_cX7_lineage_0 22 rfl rfl
theorem dqw_cX7_lineage_23 : dqLF cX7_lineage 23 [54, 4, 21, 4, 42, 180, 1, 57, 162, 0, 49, 42, 21, 4, 27, 42, 28, 182, 1, 73, 182, 1, 80] := by decide +kernel
theorem dX7_lineage_23 : decode cX7_lineage 23 = .ok (.istore 4, 2) := dqr1 dqK_54 dqw_cX7_lineage_23 0 rfl rfl rfl
theorem dX7_lineage_25 : decode cX7_lineage 25 = .ok (.iload 4, 2) := dqr1 dqK_21 dqw_cX7_lineage_23 2 rfl rfl rfl
theorem dX7_lineage_27 : decode cX7_lineage 27 = .ok (.aload_n 0, 1) := dqr0 dqK_42 dqw_cX7_lineage_23 4 rfl rfl
theorem dX7_lineage_28 : decode cX7_lineage 28 = .ok (.getfield 313, 3) := dqr2 dqK_180 dqw_cX7_lineage_23 5 rfl rfl rfl rfl rfl
theorem dX7_lineage_31 : decode cX7_lineage 31 = .ok (.if_icmp .ge 49, 3) := dqrs2 dqK_162 dqw_cX7_lineage_23 8 rfl rfl rfl rfl (by decide)
theorem dX7_lineage_34 : decode cX7_lineage 34 = .ok (.aload_n 0, 1) := dqr0 dqK_42 dqw_cX7_lineage_23 11 rfl rfl
theorem dX7_lineage_35 : decode cX7_lineage 35 = .ok (.iload 4, 2) := dqr1 dqK_21 dqw_cX7_lineage_23 12 rfl rfl rfl
theorem dX7_lineage_37 : decode cX7_lineage 37 = .ok (.iload_n 1, 1) := dqr0 dqK_27 dqw_cX7_lineage_23 14 rfl rfl
theorem dX7_lineage_38 : decode cX7_lineage 38 = .ok (.aload_n 0, 1) := dqr0 dqK_42 dqw_cX7_lineage_23 15 rfl rfl
theorem dX7_lineage_39 : decode cX7_lineage 39 = .ok (.iload_n 2, 1) := dqr0 dqK_28 dqw_cX7_lineage_23 16 rfl rfl
theorem dX7_lineage_40 : decode cX7_lineage 40 = .ok (.invokevirtual 329, 3) := dqr2 dqK_182 dqw_cX7_lineage_23 17 rfl rfl rfl rfl rfl
theorem dX7_lineage_43 : decode cX7_lineage 43 = .ok (.invokevirtual 336, 3) := dqr2 dqK_182 dqw_cX7_lineage_23 20 rfl rfl rfl rfl rfl
theorem dqw_cX7_lineage_46 : dqLF cX7_lineage 46 [54, 5, 29, 21, 5, 156, 0, 7, 3, 167, 0, 17, 42, 21, 4, 21, 5, 27, 42, 28, 182, 1, 73] := by decide +kernel
theorem dX7_lineage_46 : decode cX7_lineage 46 = .ok (.istore 5, 2) := dqr1 dqK_54 dqw_cX7_lineage_46 0 rfl rfl rfl
theorem dX7_lineage_48 : decode cX7_lineage 48 = .ok (.iload_n 3, 1) := dqr0 dqK_29 dqw_cX7_lineage_46 2 rfl rfl
theorem dX7_lineage_49 : decode cX7_lineage 49 = .ok (.iload 5, 2) := dqr1 dqK_21 dqw_cX7_lineage_46 3 rfl rfl rfl
theorem dX7_lineage_51 : decode cX7_lineage 51 = .ok (.ifCond .ge 7, 3) := dqrs2 dqK_156 dqw_cX7_lineage_46 5 rfl rfl rfl rfl (by decide)
theorem dX7_lineage_54 : decode cX7_lineage 54 = .ok (.iconst 0, 1) := dqr0 dqK_3 dqw_cX7_lineage_46 8 rfl rfl
theorem dX7_lineage_55 : decode cX7_lineage 55 = .ok (.goto 17, 3) := dqrs2 dqK_167 dqw_cX7_lineage_46 9 rfl rfl rfl rfl (by decide)
theorem dX7_lineage_58 : decode cX7_lineage 58 = .ok (.aload_n 0, 1) := dqr0 dqK_42 dqw_cX7_lineage_46 12 rfl rfl
theorem dX7_lineage_59 : decode cX7_lineage 59 = .ok (.iload 4, 2) := dqr1 dqK_21 dqw_cX7_lineage_46 13 rfl rfl rfl
theorem dX7_lineage_61 : decode cX7_lineage 61 = .ok (.iload 5, 2) := dqr1 dqK_21 dqw_cX7_lineage_46 15 rfl rfl rfl
theorem dX7_lineage_63 : decode cX7_lineage 63 = .ok (.iload_n 1, 1) := dqr0 dqK_27 dqw_cX7_lineage_46 17 rfl rfl
theorem dX7_lineage_64 : decode cX7_lineage 64 = .ok (.aload_n 0, 1) := dqr0 dqK_42 dqw_cX7_lineage_46 18 rfl rfl
theorem dX7_lineage_65 : decode cX7_lineage 65 = .ok (.iload_n 2, 1) := dqr0 dqK_28 dqw_cX7_lineage_46 19 rfl rfl
theorem dX7_lineage_66 : decode cX7_lineage 66 = .ok (.invokevirtual 329, 3) := dqr2 dqK_182 dqw_cX7_lineage_46 20 rfl rfl rfl rfl rfl
theorem dqw_cX7_lineage_69 : dqLF cX7_lineage 69 [182, 1, 76, 96, 62, 132, 4, 1, 167, 255, 204, 29, 172] := by decide +kernel
theorem dX7_lineage_69 : decode cX7_lineage 69 = .ok (.invokevirtual 332, 3) := dqr2 dqK_182 dqw_cX7_lineage_69 0 rfl rfl rfl rfl rfl
theorem dX7_lineage_72 : decode cX7_lineage 72 = .ok (.iadd, 1) := dqr0 dqK_96 dqw_cX7_lineage_69 3 rfl rfl
theorem dX7_lineage_73 : decode cX7_lineage 73 = .ok (.istore_n 3, 1) := dqr0 dqK_62 dqw_cX7_lineage_69 4 rfl rfl
theorem dX7_lineage_74 : decode cX7_lineage 74 = .ok (.iinc 4 1, 3) := dqri dqK_132 dqw_cX7_lineage_69 5 rfl rfl rfl rfl (by decide)
theorem dX7_lineage_77 : decode cX7_lineage 77 = .ok (.goto (-52), 3) := dqrs2 dqK_167 dqw_cX7_lineage_69 8 rfl rfl rfl rfl (by decide)
theorem dX7_lineage_80 : decode cX7_lineage 80 = .ok (.iload_n 3, 1) := dqr0 dqK_29 dqw_cX7_lineage_69 11 rfl rfl
theorem dX7_lineage_81 : decode cX7_lineage 81 = .ok (.ireturn, 1) := dqr0 dqK_172 dqw_cX7_lineage_69 12 rfl rfl
theorem dqw_cX7_loan_0 : dqLF cX7_loan 0 [42, 27, 182, 1, 4, 153, 0, 20, 42, 28, 182, 1, 4, 153, 0, 12, 42, 21, 4, 182, 1, 70] := by decide +kernel
theorem dX7_loan_0 : decode cX7_loan 0 = .ok (.aload_n 0, 1) := dqr0 dqK_42 dqw_cX7_loan_0 0 rfl rfl
theorem dX7_loan_1 : decode cX7_loan 1 = .ok (.iload_n 1, 1) := dqr0 dqK_27 dqw_cX7_loan_0 1 rfl rfl
theorem dX7_loan_2 : decode cX7_loan 2 = .ok (.invokevirtual 260, 3) := dqr2 dqK_182 dqw_cX7_loan_0 2 rfl rfl rfl rfl rfl
theorem dX7_loan_5 : decode cX7_loan 5 = .ok (.ifCond .eq 20, 3) := dqrs2 dqK_153 dqw_cX7_loan_0 5 rfl rfl rfl rfl (by decide)
theorem dX7_loan_8 : decode cX7_loan 8 = .ok (.aload_n 0, 1) := dqr0 dqK_42 dqw_cX7_loan_0 8 rfl rfl
theorem dX7_loan_9 : decode cX7_loan 9 = .ok (.iload_n 2, 1) := dqr0 dqK_28 dqw_cX7_loan_0 9 rfl rfl
theorem dX7_loan_10 : decode cX7_loan 10 = .ok (.invokevirtual 260, 3) := dqr2 dqK_182 dqw_cX7_loan_0 10 rfl rfl rfl rfl rfl
theorem dX7_loan_13 : decode cX7_loan 13 = .ok (.ifCond .eq 12, 3) := dqrs2 dqK_153 dqw_cX7_loan_0 13 rfl rfl rfl rfl (by decide)
theorem dX7_loan_16 : decode cX7_loan 16 = .ok (.aload_n 0, 1) := dqr0 dqK_42 dqw_cX7_loan_0 16 rfl rfl
theorem dX7_loan_17 : decode cX7_loan 17 = .ok (.iload 4, 2) := dqr1 dqK_21 dqw_cX7_loan_0 17 rfl rfl rfl
theorem dX7_loan_19 : decode cX7_loan 19 = .ok (.invokevirtual 326, 3) := dqr2 dqK_182 dqw_cX7_loan_0 19 rfl rfl rfl rfl rfl
theorem dqw_cX7_loan_22 : dqLF cX7_loan 22 [154, 0, 5, 2, 172, 29, 184, 1, 7, 153, 0, 8, 27, 28, 160, 0, 6, 16, 254, 172, 42, 21, 4] := by decide +kernel
theorem dX7_loan_22 : decode cX7_loan 22 = .ok (.ifCond .ne 5, 3) := dqrs2 dqK_154 dqw_cX7_loan_22 0 rfl rfl rfl rfl (by decide)
theorem dX7_loan_25 : decode cX7_loan 25 = .ok (.iconst (-1), 1) := dqr0 dqK_2 dqw_cX7_loan_22 3 rfl rfl
theorem dX7_loan_26 : decode cX7_loan 26 = .ok (.ireturn, 1) := dqr0 dqK_172 dqw_cX7_loan_22 4 rfl rfl
theorem dX7_loan_27 : decode cX7_loan 27 = .ok (.iload_n 3, 1) := dqr0 dqK_29 dqw_cX7_loan_22 5 rfl rfl
theorem dX7_loan_28 : decode cX7_loan 28 = .ok (.invokestatic 263, 3) := dqr2 dqK_184 dqw_cX7_loan_22 6 rfl rfl rfl rfl rfl
theorem dX7_loan_31 : decode cX7_loan 31 = .ok (.ifCond .eq 8, 3) := dqrs2 dqK_153 dqw_cX7_loan_22 9 rfl rfl rfl rfl (by decide)
theorem dX7_loan_34 : decode cX7_loan 34 = .ok (.iload_n 1, 1) := dqr0 dqK_27 dqw_cX7_loan_22 12 rfl rfl
theorem dX7_loan_35 : decode cX7_loan 35 = .ok (.iload_n 2, 1) := dqr0 dqK_28 dqw_cX7_loan_22 13 rfl rfl
theorem dX7_loan_36 : decode cX7_loan 36 = .ok (.if_icmp .ne 6, 3) := dqrs2 dqK_160 dqw_cX7_loan_22 14 rfl rfl rfl rfl (by decide)
theorem dX7_loan_39 : decode cX7_loan 39 = .ok (.bipush (-2), 2) := dqrs1 dqK_16 dqw_cX7_loan_22 17 rfl rfl rfl (by decide)
theorem dX7_loan_41 : decode cX7_loan 41 = .ok (.ireturn, 1) := dqr0 dqK_172 dqw_cX7_loan_22 19 rfl rfl
theorem dX7_loan_42 : decode cX7_loan 42 = .ok (.aload_n 0, 1) := dqr0 dqK_42 dqw_cX7_loan_22 20 rfl rfl
theorem dX7_loan_43 : decode cX7_loan 43 = .ok (.iload 4, 2) := dqr1 dqK_21 dqw_cX7_loan_22 21 rfl rfl rfl
theorem dqw_cX7_loan_45 : dqLF cX7_loan 45 [182, 1, 73, 54, 5, 42, 27, 29, 21, 5, 182, 1, 80, 54, 6, 42, 28, 29, 21, 5, 182, 1, 80] := by decide +kernel
theorem dX7_loan_45 : decode cX7_loan 45 = .ok (.invokevirtual 329, 3) := dqr2 dqK_182 dqw_cX7_loan_45 0 rfl rfl rfl rfl rfl
theorem dX7_loan_48 : decode cX7_loan 48 = .ok (.istore 5, 2) := dqr1 dqK_54 dqw_cX7_loan_45 3 rfl rfl rfl
theorem dX7_loan_50 : decode cX7_loan 50 = .ok (.aload_n 0, 1) := dqr0 dqK_42 dqw_cX7_loan_45 5 rfl rfl
theorem dX7_loan_51 : decode cX7_loan 51 = .ok (.iload_n 1, 1) := dqr0 dqK_27 dqw_cX7_loan_45 6 rfl rfl
theorem dX7_loan_52 : decode cX7_loan 52 = .ok (.iload_n 3, 1) := dqr0 dqK_29 dqw_cX7_loan_45 7 rfl rfl
theorem dX7_loan_53 : decode cX7_loan 53 = .ok (.iload 5, 2) := dqr1 dqK_21 dqw_cX7_loan_45 8 rfl rfl rfl
theorem dX7_loan_55 : decode cX7_loan 55 = .ok (.invokevirtual 336, 3) := dqr2 dqK_182 dqw_cX7_loan_45 10 rfl rfl rfl rfl rfl
theorem dX7_loan_58 : decode cX7_loan 58 = .ok (.istore 6, 2) := dqr1 dqK_54 dqw_cX7_loan_45 13 rfl rfl rfl
theorem dX7_loan_60 : decode cX7_loan 60 = .ok (.aload_n 0, 1) := dqr0 dqK_42 dqw_cX7_loan_45 15 rfl rfl
theorem dX7_loan_61 : decode cX7_loan 61 = .ok (.iload_n 2, 1) := dqr0 dqK_28 dqw_cX7_loan_45 16 rfl rfl
theorem dX7_loan_62 : decode cX7_loan 62 = .ok (.iload_n 3, 1) := dqr0 dqK_29 dqw_cX7_loan_45 17 rfl rfl
theorem dX7_loan_63 : decode cX7_loan 63 = .ok (.iload 5, 2) := dqr1 dqK_21 dqw_cX7_loan_45 18 rfl rfl rfl
theorem dX7_loan_65 : decode cX7_loan 65 = .ok (.invokevirtual 336, 3) := dqr2 dqK_182 dqw_cX7_loan_45 20 rfl rfl rfl rfl rfl
theorem dqw_cX7_loan_68 : dqLF cX7_loan 68 [54, 7, 3, 54, 8, 3, 54, 9, 21, 9, 42, 180, 0, 147, 162, 0, 128, 42, 180, 0, 37, 21, 9, 46] := by decide +kernel
theorem dX7_loan_68 : decode cX7_loan 68 = .ok (.istore 7, 2) := dqr1 dqK_54 dqw_cX7_loan_68 0 rfl rfl rfl
theorem dX7_loan_70 : decode cX7_loan 70 = .ok (.iconst 0, 1) := dqr0 dqK_3 dqw_cX7_loan_68 2 rfl rfl
theorem dX7_loan_71 : decode cX7_loan 71 = .ok (.istore 8, 2) := dqr1 dqK_54 dqw_cX7_loan_68 3 rfl rfl rfl
theorem dX7_loan_73 : decode cX7_loan 73 = .ok (.iconst 0, 1) := dqr0 dqK_3 dqw_cX7_loan_68 5 rfl rfl
theorem dX7_loan_74 : decode cX7_loan 74 = .ok (.istore 9, 2) := dqr1 dqK_54 dqw_cX7_loan_68 6 rfl rfl rfl
theorem dX7_loan_76 : decode cX7_loan 76 = .ok (.iload 9, 2) := dqr1 dqK_21 dqw_cX7_loan_68 8 rfl rfl rfl
theorem dX7_loan_78 : decode cX7_loan 78 = .ok (.aload_n 0, 1) := dqr0 dqK_42 dqw_cX7_loan_68 10 rfl rfl
theorem dX7_loan_79 : decode cX7_loan 79 = .ok (.getfield 147, 3) := dqr2 dqK_180 dqw_cX7_loan_68 11 rfl rfl rfl rfl rfl
theorem dX7_loan_82 : decode cX7_loan 82 = .ok (.if_icmp .ge 128, 3) := dqrs2 dqK_162 dqw_cX7_loan_68 14 rfl rfl rfl rfl (by decide)
theorem dX7_loan_85 : decode cX7_loan 85 = .ok (.aload_n 0, 1) := dqr0 dqK_42 dqw_cX7_loan_68 17 rfl rfl
theorem dX7_loan_86 : decode cX7_loan 86 = .ok (.getfield 37, 3) := dqr2 dqK_180 dqw_cX7_loan_68 18 rfl rfl rfl rfl rfl
theorem dX7_loan_89 : decode cX7_loan 89 = .ok (.iload 9, 2) := dqr1 dqK_21 dqw_cX7_loan_68 21 rfl rfl rfl
theorem dX7_loan_91 : decode cX7_loan 91 = .ok (.iaload, 1) := dqr0 dqK_46 dqw_cX7_loan_68 23 rfl rfl
theorem dqw_cX7_loan_92 : dqLF cX7_loan 92 [4, 160, 0, 33, 42, 27, 21, 9, 29, 21, 5, 182, 1, 66, 153, 0, 20, 42, 28, 21, 9, 29, 21, 5] := by decide +kernel
theorem dX7_loan_92 : decode cX7_loan 92 = .ok (.iconst 1, 1) := dqr0 dqK_4 dqw_cX7_loan_92 0 rfl rfl
theorem dX7_loan_93 : decode cX7_loan 93 = .ok (.if_icmp .ne 33, 3) := dqrs2 dqK_160 dqw_cX7_loan_92 1 rfl rfl rfl rfl (by decide)
theorem dX7_loan_96 : decode cX7_loan 96 = .ok (.aload_n 0, 1) := dqr0 dqK_42 dqw_cX7_loan_92 4 rfl rfl
theorem dX7_loan_97 : decode cX7_loan 97 = .ok (.iload_n 1, 1) := dqr0 dqK_27 dqw_cX7_loan_92 5 rfl rfl
theorem dX7_loan_98 : decode cX7_loan 98 = .ok (.iload 9, 2) := dqr1 dqK_21 dqw_cX7_loan_92 6 rfl rfl rfl
theorem dX7_loan_100 : decode cX7_loan 100 = .ok (.iload_n 3, 1) := dqr0 dqK_29 dqw_cX7_loan_92 8 rfl rfl
theorem dX7_loan_101 : decode cX7_loan 101 = .ok (.iload 5, 2) := dqr1 dqK_21 dqw_cX7_loan_92 9 rfl rfl rfl
theorem dX7_loan_103 : decode cX7_loan 103 = .ok (.invokevirtual 322, 3) := dqr2 dqK_182 dqw_cX7_loan_92 11 rfl rfl rfl rfl rfl
theorem dX7_loan_106 : decode cX7_loan 106 = .ok (.ifCond .eq 20, 3) := dqrs2 dqK_153 dqw_cX7_loan_92 14 rfl rfl rfl rfl (by decide)
theorem dX7_loan_109 : decode cX7_loan 109 = .ok (.aload_n 0, 1) := dqr0 dqK_42 dqw_cX7_loan_92 17 rfl rfl
theorem dX7_loan_110 : decode cX7_loan 110 = .ok (.iload_n 2, 1) := dqr0 dqK_28 dqw_cX7_loan_92 18 rfl rfl
theorem dX7_loan_111 : decode cX7_loan 111 = .ok (.iload 9, 2) := dqr1 dqK_21 dqw_cX7_loan_92 19 rfl rfl rfl
theorem dX7_loan_113 : decode cX7_loan 113 = .ok (.iload_n 3, 1) := dqr0 dqK_29 dqw_cX7_loan_92 21 rfl rfl
theorem dX7_loan_114 : decode cX7_loan 114 = .ok (.iload 5, 2) := dqr1 dqK_21 dqw_cX7_loan_92 22 rfl rfl rfl
theorem dqw_cX7_loan_116 : dqLF cX7_loan 116 [182, 1, 66, 153, 0, 7, 4, 167, 0, 4, 3, 54, 10, 21, 6, 155, 0, 22, 21, 10, 153, 0, 17, 42] := by decide +kernel
theorem dX7_loan_116 : decode cX7_loan 116 = .ok (.invokevirtual 322, 3) := dqr2 dqK_182 dqw_cX7_loan_116 0 rfl rfl rfl rfl rfl
theorem dX7_loan_119 : decode cX7_loan 119 = .ok (.ifCond .eq 7, 3) := dqrs2 dqK_153 dqw_cX7_loan_116 3 rfl rfl rfl rfl (by decide)
theorem dX7_loan_122 : decode cX7_loan 122 = .ok (.iconst 1, 1) := dqr0 dqK_4 dqw_cX7_loan_116 6 rfl rfl
theorem dX7_loan_123 : decode cX7_loan 123 = .ok (.goto 4, 3) := dqrs2 dqK_167 dqw_cX7_loan_116 7 rfl rfl rfl rfl (by decide)
theorem dX7_loan_126 : decode cX7_loan 126 = .ok (.iconst 0, 1) := dqr0 dqK_3 dqw_cX7_loan_116 10 rfl rfl
theorem dX7_loan_127 : decode cX7_loan 127 = .ok (.istore 10, 2) := dqr1 dqK_54 dqw_cX7_loan_116 11 rfl rfl rfl
theorem dX7_loan_129 : decode cX7_loan 129 = .ok (.iload 6, 2) := dqr1 dqK_21 dqw_cX7_loan_116 13 rfl rfl rfl
theorem dX7_loan_131 : decode cX7_loan 131 = .ok (.ifCond .lt 22, 3) := dqrs2 dqK_155 dqw_cX7_loan_116 15 rfl rfl rfl rfl (by decide)
theorem dX7_loan_134 : decode cX7_loan 134 = .ok (.iload 10, 2) := dqr1 dqK_21 dqw_cX7_loan_116 18 rfl rfl rfl
theorem dX7_loan_136 : decode cX7_loan 136 = .ok (.ifCond .eq 17, 3) := dqrs2 dqK_153 dqw_cX7_loan_116 20 rfl rfl rfl rfl (by decide)
theorem dX7_loan_139 : decode cX7_loan 139 = .ok (.aload_n 0, 1) := dqr0 dqK_42 dqw_cX7_loan_116 23 rfl rfl
theorem dqw_cX7_loan_140 : dqLF cX7_loan 140 [21, 6, 21, 9, 29, 21, 5, 182, 1, 66, 154, 0, 27, 21, 7, 155, 0, 26, 21, 10, 153, 0, 21, 42] := by decide +kernel
theorem dX7_loan_140 : decode cX7_loan 140 = .ok (.iload 6, 2) := dqr1 dqK_21 dqw_cX7_loan_140 0 rfl rfl rfl
theorem dX7_loan_142 : decode cX7_loan 142 = .ok (.iload 9, 2) := dqr1 dqK_21 dqw_cX7_loan_140 2 rfl rfl rfl
theorem dX7_loan_144 : decode cX7_loan 144 = .ok (.iload_n 3, 1) := dqr0 dqK_29 dqw_cX7_loan_140 4 rfl rfl
theorem dX7_loan_145 : decode cX7_loan 145 = .ok (.iload 5, 2) := dqr1 dqK_21 dqw_cX7_loan_140 5 rfl rfl rfl
theorem dX7_loan_147 : decode cX7_loan 147 = .ok (.invokevirtual 322, 3) := dqr2 dqK_182 dqw_cX7_loan_140 7 rfl rfl rfl rfl rfl
theorem dX7_loan_150 : decode cX7_loan 150 = .ok (.ifCond .ne 27, 3) := dqrs2 dqK_154 dqw_cX7_loan_140 10 rfl rfl rfl rfl (by decide)
theorem dX7_loan_153 : decode cX7_loan 153 = .ok (.iload 7, 2) := dqr1 dqK_21 dqw_cX7_loan_140 13 rfl rfl rfl
theorem dX7_loan_155 : decode cX7_loan 155 = .ok (.ifCond .lt 26, 3) := dqrs2 dqK_155 dqw_cX7_loan_140 15 rfl rfl rfl rfl (by decide)
theorem dX7_loan_158 : decode cX7_loan 158 = .ok (.iload 10, 2) := dqr1 dqK_21 dqw_cX7_loan_140 18 rfl rfl rfl
theorem dX7_loan_160 : decode cX7_loan 160 = .ok (.ifCond .eq 21, 3) := dqrs2 dqK_153 dqw_cX7_loan_140 20 rfl rfl rfl rfl (by decide)
theorem dX7_loan_163 : decode cX7_loan 163 = .ok (.aload_n 0, 1) := dqr0 dqK_42 dqw_cX7_loan_140 23 rfl rfl
theorem dqw_cX7_loan_164 : dqLF cX7_loan 164 [21, 7, 21, 9, 29, 21, 5, 182, 1, 66, 153, 0, 7, 4, 167, 0, 4, 3, 54, 11, 21, 8, 21, 10] := by decide +kernel
theorem dX7_loan_164 : decode cX7_loan 164 = .ok (.iload 7, 2) := dqr1 dqK_21 dqw_cX7_loan_164 0 rfl rfl rfl
theorem dX7_loan_166 : decode cX7_loan 166 = .ok (.iload 9, 2) := dqr1 dqK_21 dqw_cX7_loan_164 2 rfl rfl rfl
theorem dX7_loan_168 : decode cX7_loan 168 = .ok (.iload_n 3, 1) := dqr0 dqK_29 dqw_cX7_loan_164 4 rfl rfl
theorem dX7_loan_169 : decode cX7_loan 169 = .ok (.iload 5, 2) := dqr1 dqK_21 dqw_cX7_loan_164 5 rfl rfl rfl
theorem dX7_loan_171 : decode cX7_loan 171 = .ok (.invokevirtual 322, 3) := dqr2 dqK_182 dqw_cX7_loan_164 7 rfl rfl rfl rfl rfl
theorem dX7_loan_174 : decode cX7_loan 174 = .ok (.ifCond .eq 7, 3) := dqrs2 dqK_153 dqw_cX7_loan_164 10 rfl rfl rfl rfl (by decide)
theorem dX7_loan_177 : decode cX7_loan 177 = .ok (.iconst 1, 1) := dqr0 dqK_4 dqw_cX7_loan_164 13 rfl rfl
theorem dX7_loan_178 : decode cX7_loan 178 = .ok (.goto 4, 3) := dqrs2 dqK_167 dqw_cX7_loan_164 14 rfl rfl rfl rfl (by decide)
theorem dX7_loan_181 : decode cX7_loan 181 = .ok (.iconst 0, 1) := dqr0 dqK_3 dqw_cX7_loan_164 17 rfl rfl
theorem dX7_loan_182 : decode cX7_loan 182 = .ok (.istore 11, 2) := dqr1 dqK_54 dqw_cX7_loan_164 18 rfl rfl rfl
theorem dX7_loan_184 : decode cX7_loan 184 = .ok (.iload 8, 2) := dqr1 dqK_21 dqw_cX7_loan_164 20 rfl rfl rfl
theorem dX7_loan_186 : decode cX7_loan 186 = .ok (.iload 10, 2) := dqr1 dqK_21 dqw_cX7_loan_164 22 rfl rfl rfl
theorem dqw_cX7_loan_188 : dqLF cX7_loan 188 [153, 0, 12, 21, 11, 154, 0, 7, 4, 167, 0, 4, 3, 96, 54, 8, 132, 9, 1, 167, 255, 125, 21, 8] := by decide +kernel
theorem dX7_loan_188 : decode cX7_loan 188 = .ok (.ifCond .eq 12, 3) := dqrs2 dqK_153 dqw_cX7_loan_188 0 rfl rfl rfl rfl (by decide)
theorem dX7_loan_191 : decode cX7_loan 191 = .ok (.iload 11, 2) := dqr1 dqK_21 dqw_cX7_loan_188 3 rfl rfl rfl
theorem dX7_loan_193 : decode cX7_loan 193 = .ok (.ifCond .ne 7, 3) := dqrs2 dqK_154 dqw_cX7_loan_188 5 rfl rfl rfl rfl (by decide)
theorem dX7_loan_196 : decode cX7_loan 196 = .ok (.iconst 1, 1) := dqr0 dqK_4 dqw_cX7_loan_188 8 rfl rfl
theorem dX7_loan_197 : decode cX7_loan 197 = .ok (.goto 4, 3) := dqrs2 dqK_167 dqw_cX7_loan_188 9 rfl rfl rfl rfl (by decide)
theorem dX7_loan_200 : decode cX7_loan 200 = .ok (.iconst 0, 1) := dqr0 dqK_3 dqw_cX7_loan_188 12 rfl rfl
theorem dX7_loan_201 : decode cX7_loan 201 = .ok (.iadd, 1) := dqr0 dqK_96 dqw_cX7_loan_188 13 rfl rfl
theorem dX7_loan_202 : decode cX7_loan 202 = .ok (.istore 8, 2) := dqr1 dqK_54 dqw_cX7_loan_188 14 rfl rfl rfl
theorem dX7_loan_204 : decode cX7_loan 204 = .ok (.iinc 9 1, 3) := dqri dqK_132 dqw_cX7_loan_188 16 rfl rfl rfl rfl (by decide)
theorem dX7_loan_207 : decode cX7_loan 207 = .ok (.goto (-131), 3) := dqrs2 dqK_167 dqw_cX7_loan_188 19 rfl rfl rfl rfl (by decide)
theorem dX7_loan_210 : decode cX7_loan 210 = .ok (.iload 8, 2) := dqr1 dqK_21 dqw_cX7_loan_188 22 rfl rfl rfl
theorem dqw_cX7_loan_212 : dqLF cX7_loan 212 [172] := by decide +kernel
theorem dX7_loan_212 : decode cX7_loan 212 = .ok (.ireturn, 1) := dqr0 dqK_172 dqw_cX7_loan_212 0 rfl rfl
theorem dqw_cX7_core_0 : dqLF cX7_core 0 [42, 28, 182, 1, 70, 153, 0, 8, 29, 2, 162, 0, 5, 2, 172, 27, 184, 1, 7, 154, 0, 6, 16, 254] := by decide +kernel
theorem dX7_core_0 : decode cX7_core 0 = .ok (.aload_n 0, 1) := dqr0 dqK_42 dqw_cX7_core_0 0 rfl rfl
theorem dX7_core_1 : decode cX7_core 1 = .ok (.iload_n 2, 1) := dqr0 dqK_28 dqw_cX7_core_0 1 rfl rfl
theorem dX7_core_2 : decode cX7_core 2 = .ok (.invokevirtual 326, 3) := dqr2 dqK_182 dqw_cX7_core_0 2 rfl rfl rfl rfl rfl
theorem dX7_core_5 : decode cX7_core 5 = .ok (.ifCond .eq 8, 3) := dqrs2 dqK_153 dqw_cX7_core_0 5 rfl rfl rfl rfl (by decide)
theorem dX7_core_8 : decode cX7_core 8 = .ok (.iload_n 3, 1) := dqr0 dqK_29 dqw_cX7_core_0 8 rfl rfl
theorem dX7_core_9 : decode cX7_core 9 = .ok (.iconst (-1), 1) := dqr0 dqK_2 dqw_cX7_core_0 9 rfl rfl
theorem dX7_core_10 : decode cX7_core 10 = .ok (.if_icmp .ge 5, 3) := dqrs2 dqK_162 dqw_cX7_core_0 10 rfl rfl rfl rfl (by decide)
theorem dX7_core_13 : decode cX7_core 13 = .ok (.iconst (-1), 1) := dqr0 dqK_2 dqw_cX7_core_0 13 rfl rfl
theorem dX7_core_14 : decode cX7_core 14 = .ok (.ireturn, 1) := dqr0 dqK_172 dqw_cX7_core_0 14 rfl rfl
theorem dX7_core_15 : decode cX7_core 15 = .ok (.iload_n 1, 1) := dqr0 dqK_27 dqw_cX7_core_0 15 rfl rfl
theorem dX7_core_16 : decode cX7_core 16 = .ok (.invokestatic 263, 3) := dqr2 dqK_184 dqw_cX7_core_0 16 rfl rfl rfl rfl rfl
theorem dX7_core_19 : decode cX7_core 19 = .ok (.ifCond .ne 6, 3) := dqrs2 dqK_154 dqw_cX7_core_0 19 rfl rfl rfl rfl (by decide)
theorem dX7_core_22 : decode cX7_core 22 = .ok (.bipush (-2), 2) := dqrs1 dqK_16 dqw_cX7_core_0 22 rfl rfl rfl (by decide)
theorem dqw_cX7_core_24 : dqLF cX7_core 24 [172, 3, 54, 4, 3, 54, 5, 21, 5, 42, 180, 0, 147, 162, 0, 86, 42, 180, 1, 57, 158, 0, 79, 4] := by decide +kernel
theorem dX7_core_24 : decode cX7_core 24 = .ok (.ireturn, 1) := dqr0 dqK_172 dqw_cX7_core_24 0 rfl rfl
theorem dX7_core_25 : decode cX7_core 25 = .ok (.iconst 0, 1) := dqr0 dqK_3 dqw_cX7_core_24 1 rfl rfl
theorem dX7_core_26 : decode cX7_core 26 = .ok (.istore 4, 2) := dqr1 dqK_54 dqw_cX7_core_24 2 rfl rfl rfl
theorem dX7_core_28 : decode cX7_core 28 = .ok (.iconst 0, 1) := dqr0 dqK_3 dqw_cX7_core_24 4 rfl rfl
theorem dX7_core_29 : decode cX7_core 29 = .ok (.istore 5, 2) := dqr1 dqK_54 dqw_cX7_core_24 5 rfl rfl rfl
theorem dX7_core_31 : decode cX7_core 31 = .ok (.iload 5, 2) := dqr1 dqK_21 dqw_cX7_core_24 7 rfl rfl rfl
theorem dX7_core_33 : decode cX7_core 33 = .ok (.aload_n 0, 1) := dqr0 dqK_42 dqw_cX7_core_24 9 rfl rfl
theorem dX7_core_34 : decode cX7_core 34 = .ok (.getfield 147, 3) := dqr2 dqK_180 dqw_cX7_core_24 10 rfl rfl rfl rfl rfl
theorem dX7_core_37 : decode cX7_core 37 = .ok (.if_icmp .ge 86, 3) := dqrs2 dqK_162 dqw_cX7_core_24 13 rfl rfl rfl rfl (by decide)
theorem dX7_core_40 : decode cX7_core 40 = .ok (.aload_n 0, 1) := dqr0 dqK_42 dqw_cX7_core_24 16 rfl rfl
theorem dX7_core_41 : decode cX7_core 41 = .ok (.getfield 313, 3) := dqr2 dqK_180 dqw_cX7_core_24 17 rfl rfl rfl rfl rfl
theorem dX7_core_44 : decode cX7_core 44 = .ok (.ifCond .le 79, 3) := dqrs2 dqK_158 dqw_cX7_core_24 20 rfl rfl rfl rfl (by decide)
theorem dX7_core_47 : decode cX7_core 47 = .ok (.iconst 1, 1) := dqr0 dqK_4 dqw_cX7_core_24 23 rfl rfl
theorem dqw_cX7_core_48 : dqLF cX7_core 48 [54, 6, 3, 54, 7, 21, 7, 42, 180, 1, 57, 162, 0, 38, 21, 6, 153, 0, 24, 42, 21, 7, 21, 5] := by decide +kernel
theorem dX7_core_48 : decode cX7_core 48 = .ok (.istore 6, 2) := dqr1 dqK_54 dqw_cX7_core_48 0 rfl rfl rfl
theorem dX7_core_50 : decode cX7_core 50 = .ok (.iconst 0, 1) := dqr0 dqK_3 dqw_cX7_core_48 2 rfl rfl
theorem dX7_core_51 : decode cX7_core 51 = .ok (.istore 7, 2) := dqr1 dqK_54 dqw_cX7_core_48 3 rfl rfl rfl
theorem dX7_core_53 : decode cX7_core 53 = .ok (.iload 7, 2) := dqr1 dqK_21 dqw_cX7_core_48 5 rfl rfl rfl
theorem dX7_core_55 : decode cX7_core 55 = .ok (.aload_n 0, 1) := dqr0 dqK_42 dqw_cX7_core_48 7 rfl rfl
theorem dX7_core_56 : decode cX7_core 56 = .ok (.getfield 313, 3) := dqr2 dqK_180 dqw_cX7_core_48 8 rfl rfl rfl rfl rfl
theorem dX7_core_59 : decode cX7_core 59 = .ok (.if_icmp .ge 38, 3) := dqrs2 dqK_162 dqw_cX7_core_48 11 rfl rfl rfl rfl (by decide)
theorem dX7_core_62 : decode cX7_core 62 = .ok (.iload 6, 2) := dqr1 dqK_21 dqw_cX7_core_48 14 rfl rfl rfl
theorem dX7_core_64 : decode cX7_core 64 = .ok (.ifCond .eq 24, 3) := dqrs2 dqK_153 dqw_cX7_core_48 16 rfl rfl rfl rfl (by decide)
theorem dX7_core_67 : decode cX7_core 67 = .ok (.aload_n 0, 1) := dqr0 dqK_42 dqw_cX7_core_48 19 rfl rfl
theorem dX7_core_68 : decode cX7_core 68 = .ok (.iload 7, 2) := dqr1 dqK_21 dqw_cX7_core_48 20 rfl rfl rfl
theorem dX7_core_70 : decode cX7_core 70 = .ok (.iload 5, 2) := dqr1 dqK_21 dqw_cX7_core_48 22 rfl rfl rfl
theorem dqw_cX7_core_72 : dqLF cX7_core 72 [27, 42, 28, 182, 1, 73, 182, 1, 66, 153, 0, 7, 4, 167, 0, 4, 3, 54, 6, 132, 7, 1] := by decide +kernel
theorem dX7_core_72 : decode cX7_core 72 = .ok (.iload_n 1, 1) := dqr0 dqK_27 dqw_cX7_core_72 0 rfl rfl
theorem dX7_core_73 : decode cX7_core 73 = .ok (.aload_n 0, 1) := dqr0 dqK_42 dqw_cX7_core_72 1 rfl rfl
theorem dX7_core_74 : decode cX7_core 74 = .ok (.iload_n 2, 1) := dqr0 dqK_28 dqw_cX7_core_72 2 rfl rfl
theorem dX7_core_75 : decode cX7_core 75 = .ok (.invokevirtual 329, 3) := dqr2 dqK_182 dqw_cX7_core_72 3 rfl rfl rfl rfl rfl
theorem dX7_core_78 : decode cX7_core 78 = .ok (.invokevirtual 322, 3) := dqr2 dqK_182 dqw_cX7_core_72 6 rfl rfl rfl rfl rfl
theorem dX7_core_81 : decode cX7_core 81 = .ok (.ifCond .eq 7, 3) := dqrs2 dqK_153 dqw_cX7_core_72 9 rfl rfl rfl rfl (by decide)
theorem dX7_core_84 : decode cX7_core 84 = .ok (.iconst 1, 1) := dqr0 dqK_4 dqw_cX7_core_72 12 rfl rfl
theorem dX7_core_85 : decode cX7_core 85 = .ok (.goto 4, 3) := dqrs2 dqK_167 dqw_cX7_core_72 13 rfl rfl rfl rfl (by decide)
theorem dX7_core_88 : decode cX7_core 88 = .ok (.iconst 0, 1) := dqr0 dqK_3 dqw_cX7_core_72 16 rfl rfl
theorem dX7_core_89 : decode cX7_core 89 = .ok (.istore 6, 2) := dqr1 dqK_54 dqw_cX7_core_72 17 rfl rfl rfl
theorem dX7_core_91 : decode cX7_core 91 = .ok (.iinc 7 1, 3) := dqri dqK_132 dqw_cX7_core_72 19 rfl rfl rfl rfl (by decide)
theorem dqw_cX7_core_94 : dqLF cX7_core 94 [167, 255, 215, 21, 6, 154, 0, 6, 167, 0, 15, 21, 4, 29, 160, 0, 6, 21, 5, 172, 132, 4, 1] := by decide +kernel
theorem dX7_core_94 : decode cX7_core 94 = .ok (.goto (-41), 3) := dqrs2 dqK_167 dqw_cX7_core_94 0 rfl rfl rfl rfl (by decide)
theorem dX7_core_97 : decode cX7_core 97 = .ok (.iload 6, 2) := dqr1 dqK_21 dqw_cX7_core_94 3 rfl rfl rfl
theorem dX7_core_99 : decode cX7_core 99 = .ok (.ifCond .ne 6, 3) := dqrs2 dqK_154 dqw_cX7_core_94 5 rfl rfl rfl rfl (by decide)
theorem dX7_core_102 : decode cX7_core 102 = .ok (.goto 15, 3) := dqrs2 dqK_167 dqw_cX7_core_94 8 rfl rfl rfl rfl (by decide)
theorem dX7_core_105 : decode cX7_core 105 = .ok (.iload 4, 2) := dqr1 dqK_21 dqw_cX7_core_94 11 rfl rfl rfl
theorem dX7_core_107 : decode cX7_core 107 = .ok (.iload_n 3, 1) := dqr0 dqK_29 dqw_cX7_core_94 13 rfl rfl
theorem dX7_core_108 : decode cX7_core 108 = .ok (.if_icmp .ne 6, 3) := dqrs2 dqK_160 dqw_cX7_core_94 14 rfl rfl rfl rfl (by decide)
theorem dX7_core_111 : decode cX7_core 111 = .ok (.iload 5, 2) := dqr1 dqK_21 dqw_cX7_core_94 17 rfl rfl rfl
theorem dX7_core_113 : decode cX7_core 113 = .ok (.ireturn, 1) := dqr0 dqK_172 dqw_cX7_core_94 19 rfl rfl
theorem dX7_core_114 : decode cX7_core 114 = .ok (.iinc 4 1, 3) := dqri dqK_132 dqw_cX7_core_94 20 rfl rfl rfl rfl (by decide)
theorem dqw_cX7_core_117 : dqLF cX7_core 117 [132, 5, 1, 167, 255, 167, 29, 2, 160, 0, 8, 21, 4, 167, 0, 4, 2, 172] := by decide +kernel
theorem dX7_core_117 : decode cX7_core 117 = .ok (.iinc 5 1, 3) := dqri dqK_132 dqw_cX7_core_117 0 rfl rfl rfl rfl (by decide)
theorem dX7_core_120 : decode cX7_core 120 = .ok (.goto (-89), 3) := dqrs2 dqK_167 dqw_cX7_core_117 3 rfl rfl rfl rfl (by decide)
theorem dX7_core_123 : decode cX7_core 123 = .ok (.iload_n 3, 1) := dqr0 dqK_29 dqw_cX7_core_117 6 rfl rfl
theorem dX7_core_124 : decode cX7_core 124 = .ok (.iconst (-1), 1) := dqr0 dqK_2 dqw_cX7_core_117 7 rfl rfl
theorem dX7_core_125 : decode cX7_core 125 = .ok (.if_icmp .ne 8, 3) := dqrs2 dqK_160 dqw_cX7_core_117 8 rfl rfl rfl rfl (by decide)
theorem dX7_core_128 : decode cX7_core 128 = .ok (.iload 4, 2) := dqr1 dqK_21 dqw_cX7_core_117 11 rfl rfl rfl
theorem dX7_core_130 : decode cX7_core 130 = .ok (.goto 4, 3) := dqrs2 dqK_167 dqw_cX7_core_117 13 rfl rfl rfl rfl (by decide)
theorem dX7_core_133 : decode cX7_core 133 = .ok (.iconst (-1), 1) := dqr0 dqK_2 dqw_cX7_core_117 16 rfl rfl
theorem dX7_core_134 : decode cX7_core 134 = .ok (.ireturn, 1) := dqr0 dqK_172 dqw_cX7_core_117 17 rfl rfl
theorem dqw_cX7_whose_0 : dqLF cX7_whose 0 [42, 27, 182, 0, 186, 153, 0, 11, 42, 29, 182, 1, 70, 154, 0, 5, 2, 172, 28, 184, 1, 7] := by decide +kernel
theorem dX7_whose_0 : decode cX7_whose 0 = .ok (.aload_n 0, 1) := dqr0 dqK_42 dqw_cX7_whose_0 0 rfl rfl
theorem dX7_whose_1 : decode cX7_whose 1 = .ok (.iload_n 1, 1) := dqr0 dqK_27 dqw_cX7_whose_0 1 rfl rfl
theorem dX7_whose_2 : decode cX7_whose 2 = .ok (.invokevirtual 186, 3) := dqr2 dqK_182 dqw_cX7_whose_0 2 rfl rfl rfl rfl rfl
theorem dX7_whose_5 : decode cX7_whose 5 = .ok (.ifCond .eq 11, 3) := dqrs2 dqK_153 dqw_cX7_whose_0 5 rfl rfl rfl rfl (by decide)
theorem dX7_whose_8 : decode cX7_whose 8 = .ok (.aload_n 0, 1) := dqr0 dqK_42 dqw_cX7_whose_0 8 rfl rfl
theorem dX7_whose_9 : decode cX7_whose 9 = .ok (.iload_n 3, 1) := dqr0 dqK_29 dqw_cX7_whose_0 9 rfl rfl
theorem dX7_whose_10 : decode cX7_whose 10 = .ok (.invokevirtual 326, 3) := dqr2 dqK_182 dqw_cX7_whose_0 10 rfl rfl rfl rfl rfl
theorem dX7_whose_13 : decode cX7_whose 13 = .ok (.ifCond .ne 5, 3) := dqrs2 dqK_154 dqw_cX7_whose_0 13 rfl rfl rfl rfl (by decide)
theorem dX7_whose_16 : decode cX7_whose 16 = .ok (.iconst (-1), 1) := dqr0 dqK_2 dqw_cX7_whose_0 16 rfl rfl
theorem dX7_whose_17 : decode cX7_whose 17 = .ok (.ireturn, 1) := dqr0 dqK_172 dqw_cX7_whose_0 17 rfl rfl
theorem dX7_whose_18 : decode cX7_whose 18 = .ok (.iload_n 2, 1) := dqr0 dqK_28 dqw_cX7_whose_0 18 rfl rfl
theorem dX7_whose_19 : decode cX7_whose 19 = .ok (.invokestatic 263, 3) := dqr2 dqK_184 dqw_cX7_whose_0 19 rfl rfl rfl rfl rfl
theorem dqw_cX7_whose_22 : dqLF cX7_whose 22 [154, 0, 6, 16, 254, 172, 16, 251, 54, 4, 3, 54, 5, 3, 54, 6, 21, 6, 16, 10, 162, 0, 86, 3] := by decide +kernel
theorem dX7_whose_22 : decode cX7_whose 22 = .ok (.ifCond .ne 6, 3) := dqrs2 dqK_154 dqw_cX7_whose_22 0 rfl rfl rfl rfl (by decide)
theorem dX7_whose_25 : decode cX7_whose 25 = .ok (.bipush (-2), 2) := dqrs1 dqK_16 dqw_cX7_whose_22 3 rfl rfl rfl (by decide)
theorem dX7_whose_27 : decode cX7_whose 27 = .ok (.ireturn, 1) := dqr0 dqK_172 dqw_cX7_whose_22 5 rfl rfl
theorem dX7_whose_28 : decode cX7_whose 28 = .ok (.bipush (-5), 2) := dqrs1 dqK_16 dqw_cX7_whose_22 6 rfl rfl rfl (by decide)
theorem dX7_whose_30 : decode cX7_whose 30 = .ok (.istore 4, 2) := dqr1 dqK_54 dqw_cX7_whose_22 8 rfl rfl rfl
theorem dX7_whose_32 : decode cX7_whose 32 = .ok (.iconst 0, 1) := dqr0 dqK_3 dqw_cX7_whose_22 10 rfl rfl
theorem dX7_whose_33 : decode cX7_whose 33 = .ok (.istore 5, 2) := dqr1 dqK_54 dqw_cX7_whose_22 11 rfl rfl rfl
theorem dX7_whose_35 : decode cX7_whose 35 = .ok (.iconst 0, 1) := dqr0 dqK_3 dqw_cX7_whose_22 13 rfl rfl
theorem dX7_whose_36 : decode cX7_whose 36 = .ok (.istore 6, 2) := dqr1 dqK_54 dqw_cX7_whose_22 14 rfl rfl rfl
theorem dX7_whose_38 : decode cX7_whose 38 = .ok (.iload 6, 2) := dqr1 dqK_21 dqw_cX7_whose_22 16 rfl rfl rfl
theorem dX7_whose_40 : decode cX7_whose 40 = .ok (.bipush 10, 2) := dqrs1 dqK_16 dqw_cX7_whose_22 18 rfl rfl rfl (by decide)
theorem dX7_whose_42 : decode cX7_whose 42 = .ok (.if_icmp .ge 86, 3) := dqrs2 dqK_162 dqw_cX7_whose_22 20 rfl rfl rfl rfl (by decide)
theorem dX7_whose_45 : decode cX7_whose 45 = .ok (.iconst 0, 1) := dqr0 dqK_3 dqw_cX7_whose_22 23 rfl rfl
theorem dqw_cX7_whose_46 : dqLF cX7_whose 46 [54, 7, 3, 54, 8, 21, 8, 42, 180, 1, 57, 162, 0, 47, 21, 7, 42, 180, 0, 110, 21, 8, 46] := by decide +kernel
theorem dX7_whose_46 : decode cX7_whose 46 = .ok (.istore 7, 2) := dqr1 dqK_54 dqw_cX7_whose_46 0 rfl rfl rfl
theorem dX7_whose_48 : decode cX7_whose 48 = .ok (.iconst 0, 1) := dqr0 dqK_3 dqw_cX7_whose_46 2 rfl rfl
theorem dX7_whose_49 : decode cX7_whose 49 = .ok (.istore 8, 2) := dqr1 dqK_54 dqw_cX7_whose_46 3 rfl rfl rfl
theorem dX7_whose_51 : decode cX7_whose 51 = .ok (.iload 8, 2) := dqr1 dqK_21 dqw_cX7_whose_46 5 rfl rfl rfl
theorem dX7_whose_53 : decode cX7_whose 53 = .ok (.aload_n 0, 1) := dqr0 dqK_42 dqw_cX7_whose_46 7 rfl rfl
theorem dX7_whose_54 : decode cX7_whose 54 = .ok (.getfield 313, 3) := dqr2 dqK_180 dqw_cX7_whose_46 8 rfl rfl rfl rfl rfl
theorem dX7_whose_57 : decode cX7_whose 57 = .ok (.if_icmp .ge 47, 3) := dqrs2 dqK_162 dqw_cX7_whose_46 11 rfl rfl rfl rfl (by decide)
theorem dX7_whose_60 : decode cX7_whose 60 = .ok (.iload 7, 2) := dqr1 dqK_21 dqw_cX7_whose_46 14 rfl rfl rfl
theorem dX7_whose_62 : decode cX7_whose 62 = .ok (.aload_n 0, 1) := dqr0 dqK_42 dqw_cX7_whose_46 16 rfl rfl
theorem dX7_whose_63 : decode cX7_whose 63 = .ok (.getfield 110, 3) := dqr2 dqK_180 dqw_cX7_whose_46 17 rfl rfl rfl rfl rfl
theorem dX7_whose_66 : decode cX7_whose 66 = .ok (.iload 8, 2) := dqr1 dqK_21 dqw_cX7_whose_46 20 rfl rfl rfl
theorem dX7_whose_68 : decode cX7_whose 68 = .ok (.iaload, 1) := dqr0 dqK_46 dqw_cX7_whose_46 22 rfl rfl
theorem dqw_cX7_whose_69 : dqLF cX7_whose 69 [21, 6, 160, 0, 23, 42, 21, 8, 27, 28, 42, 29, 182, 1, 73, 182, 1, 66, 153, 0, 7, 4] := by decide +kernel
theorem dX7_whose_69 : decode cX7_whose 69 = .ok (.iload 6, 2) := dqr1 dqK_21 dqw_cX7_whose_69 0 rfl rfl rfl
theorem dX7_whose_71 : decode cX7_whose 71 = .ok (.if_icmp .ne 23, 3) := dqrs2 dqK_160 dqw_cX7_whose_69 2 rfl rfl rfl rfl (by decide)
theorem dX7_whose_74 : decode cX7_whose 74 = .ok (.aload_n 0, 1) := dqr0 dqK_42 dqw_cX7_whose_69 5 rfl rfl
theorem dX7_whose_75 : decode cX7_whose 75 = .ok (.iload 8, 2) := dqr1 dqK_21 dqw_cX7_whose_69 6 rfl rfl rfl
theorem dX7_whose_77 : decode cX7_whose 77 = .ok (.iload_n 1, 1) := dqr0 dqK_27 dqw_cX7_whose_69 8 rfl rfl
theorem dX7_whose_78 : decode cX7_whose 78 = .ok (.iload_n 2, 1) := dqr0 dqK_28 dqw_cX7_whose_69 9 rfl rfl
theorem dX7_whose_79 : decode cX7_whose 79 = .ok (.aload_n 0, 1) := dqr0 dqK_42 dqw_cX7_whose_69 10 rfl rfl
theorem dX7_whose_80 : decode cX7_whose 80 = .ok (.iload_n 3, 1) := dqr0 dqK_29 dqw_cX7_whose_69 11 rfl rfl
theorem dX7_whose_81 : decode cX7_whose 81 = .ok (.invokevirtual 329, 3) := dqr2 dqK_182 dqw_cX7_whose_69 12 rfl rfl rfl rfl rfl
theorem dX7_whose_84 : decode cX7_whose 84 = .ok (.invokevirtual 322, 3) := dqr2 dqK_182 dqw_cX7_whose_69 15 rfl rfl rfl rfl rfl
theorem dX7_whose_87 : decode cX7_whose 87 = .ok (.ifCond .eq 7, 3) := dqrs2 dqK_153 dqw_cX7_whose_69 18 rfl rfl rfl rfl (by decide)
theorem dX7_whose_90 : decode cX7_whose 90 = .ok (.iconst 1, 1) := dqr0 dqK_4 dqw_cX7_whose_69 21 rfl rfl
theorem dqw_cX7_whose_91 : dqLF cX7_whose 91 [167, 0, 4, 3, 96, 54, 7, 132, 8, 1, 167, 255, 206, 21, 7, 21, 5, 163, 0, 6, 167, 0, 11] := by decide +kernel
theorem dX7_whose_91 : decode cX7_whose 91 = .ok (.goto 4, 3) := dqrs2 dqK_167 dqw_cX7_whose_91 0 rfl rfl rfl rfl (by decide)
theorem dX7_whose_94 : decode cX7_whose 94 = .ok (.iconst 0, 1) := dqr0 dqK_3 dqw_cX7_whose_91 3 rfl rfl
theorem dX7_whose_95 : decode cX7_whose 95 = .ok (.iadd, 1) := dqr0 dqK_96 dqw_cX7_whose_91 4 rfl rfl
theorem dX7_whose_96 : decode cX7_whose 96 = .ok (.istore 7, 2) := dqr1 dqK_54 dqw_cX7_whose_91 5 rfl rfl rfl
theorem dX7_whose_98 : decode cX7_whose 98 = .ok (.iinc 8 1, 3) := dqri dqK_132 dqw_cX7_whose_91 7 rfl rfl rfl rfl (by decide)
theorem dX7_whose_101 : decode cX7_whose 101 = .ok (.goto (-50), 3) := dqrs2 dqK_167 dqw_cX7_whose_91 10 rfl rfl rfl rfl (by decide)
theorem dX7_whose_104 : decode cX7_whose 104 = .ok (.iload 7, 2) := dqr1 dqK_21 dqw_cX7_whose_91 13 rfl rfl rfl
theorem dX7_whose_106 : decode cX7_whose 106 = .ok (.iload 5, 2) := dqr1 dqK_21 dqw_cX7_whose_91 15 rfl rfl rfl
theorem dX7_whose_108 : decode cX7_whose 108 = .ok (.if_icmp .gt 6, 3) := dqrs2 dqK_163 dqw_cX7_whose_91 17 rfl rfl rfl rfl (by decide)
theorem dX7_whose_111 : decode cX7_whose 111 = .ok (.goto 11, 3) := dqrs2 dqK_167 dqw_cX7_whose_91 20 rfl rfl rfl rfl (by decide)
theorem dqw_cX7_whose_114 : dqLF cX7_whose 114 [21, 7, 54, 5, 21, 6, 54, 4, 132, 6, 1, 167, 255, 169, 21, 4, 172] := by decide +kernel
theorem dX7_whose_114 : decode cX7_whose 114 = .ok (.iload 7, 2) := dqr1 dqK_21 dqw_cX7_whose_114 0 rfl rfl rfl
theorem dX7_whose_116 : decode cX7_whose 116 = .ok (.istore 5, 2) := dqr1 dqK_54 dqw_cX7_whose_114 2 rfl rfl rfl
theorem dX7_whose_118 : decode cX7_whose 118 = .ok (.iload 6, 2) := dqr1 dqK_21 dqw_cX7_whose_114 4 rfl rfl rfl
theorem dX7_whose_120 : decode cX7_whose 120 = .ok (.istore 4, 2) := dqr1 dqK_54 dqw_cX7_whose_114 6 rfl rfl rfl
theorem dX7_whose_122 : decode cX7_whose 122 = .ok (.iinc 6 1, 3) := dqri dqK_132 dqw_cX7_whose_114 8 rfl rfl rfl rfl (by decide)
theorem dX7_whose_125 : decode cX7_whose 125 = .ok (.goto (-87), 3) := dqrs2 dqK_167 dqw_cX7_whose_114 11 rfl rfl rfl rfl (by decide)
theorem dX7_whose_128 : decode cX7_whose 128 = .ok (.iload 4, 2) := dqr1 dqK_21 dqw_cX7_whose_114 14 rfl rfl rfl
theorem dX7_whose_130 : decode cX7_whose 130 = .ok (.ireturn, 1) := dqr0 dqK_172 dqw_cX7_whose_114 16 rfl rfl
theorem dqw_cX7_put_0 : dqLF cX7_put 0 [42, 28, 182, 0, 186, 154, 0, 11, 28, 16, 40, 159, 0, 5, 2, 172, 27, 153, 0, 14, 27, 42] := by decide +kernel
theorem dX7_put_0 : decode cX7_put 0 = .ok (.aload_n 0, 1) := dqr0 dqK_42 dqw_cX7_put_0 0 rfl rfl
theorem dX7_put_1 : decode cX7_put 1 = .ok (.iload_n 2, 1) := dqr0 dqK_28 dqw_cX7_put_0 1 rfl rfl
theorem dX7_put_2 : decode cX7_put 2 = .ok (.invokevirtual 186, 3) := dqr2 dqK_182 dqw_cX7_put_0 2 rfl rfl rfl rfl rfl
theorem dX7_put_5 : decode cX7_put 5 = .ok (.ifCond .ne 11, 3) := dqrs2 dqK_154 dqw_cX7_put_0 5 rfl rfl rfl rfl (by decide)
theorem dX7_put_8 : decode cX7_put 8 = .ok (.iload_n 2, 1) := dqr0 dqK_28 dqw_cX7_put_0 8 rfl rfl
theorem dX7_put_9 : decode cX7_put 9 = .ok (.bipush 40, 2) := dqrs1 dqK_16 dqw_cX7_put_0 9 rfl rfl rfl (by decide)
theorem dX7_put_11 : decode cX7_put 11 = .ok (.if_icmp .eq 5, 3) := dqrs2 dqK_159 dqw_cX7_put_0 11 rfl rfl rfl rfl (by decide)
theorem dX7_put_14 : decode cX7_put 14 = .ok (.iconst (-1), 1) := dqr0 dqK_2 dqw_cX7_put_0 14 rfl rfl
theorem dX7_put_15 : decode cX7_put 15 = .ok (.ireturn, 1) := dqr0 dqK_172 dqw_cX7_put_0 15 rfl rfl
theorem dX7_put_16 : decode cX7_put 16 = .ok (.iload_n 1, 1) := dqr0 dqK_27 dqw_cX7_put_0 16 rfl rfl
theorem dX7_put_17 : decode cX7_put 17 = .ok (.ifCond .eq 14, 3) := dqrs2 dqK_153 dqw_cX7_put_0 17 rfl rfl rfl rfl (by decide)
theorem dX7_put_20 : decode cX7_put 20 = .ok (.iload_n 1, 1) := dqr0 dqK_27 dqw_cX7_put_0 20 rfl rfl
theorem dX7_put_21 : decode cX7_put 21 = .ok (.aload_n 0, 1) := dqr0 dqK_42 dqw_cX7_put_0 21 rfl rfl
theorem dqw_cX7_put_22 : dqLF cX7_put 22 [180, 1, 83, 159, 0, 6, 16, 254, 172, 27, 16, 24, 160, 0, 6, 16, 252, 172, 27, 154, 0, 8, 42, 3] := by decide +kernel
theorem dX7_put_22 : decode cX7_put 22 = .ok (.getfield 339, 3) := dqr2 dqK_180 dqw_cX7_put_22 0 rfl rfl rfl rfl rfl
theorem dX7_put_25 : decode cX7_put 25 = .ok (.if_icmp .eq 6, 3) := dqrs2 dqK_159 dqw_cX7_put_22 3 rfl rfl rfl rfl (by decide)
theorem dX7_put_28 : decode cX7_put 28 = .ok (.bipush (-2), 2) := dqrs1 dqK_16 dqw_cX7_put_22 6 rfl rfl rfl (by decide)
theorem dX7_put_30 : decode cX7_put 30 = .ok (.ireturn, 1) := dqr0 dqK_172 dqw_cX7_put_22 8 rfl rfl
theorem dX7_put_31 : decode cX7_put 31 = .ok (.iload_n 1, 1) := dqr0 dqK_27 dqw_cX7_put_22 9 rfl rfl
theorem dX7_put_32 : decode cX7_put 32 = .ok (.bipush 24, 2) := dqrs1 dqK_16 dqw_cX7_put_22 10 rfl rfl rfl (by decide)
theorem dX7_put_34 : decode cX7_put 34 = .ok (.if_icmp .ne 6, 3) := dqrs2 dqK_160 dqw_cX7_put_22 12 rfl rfl rfl rfl (by decide)
theorem dX7_put_37 : decode cX7_put 37 = .ok (.bipush (-4), 2) := dqrs1 dqK_16 dqw_cX7_put_22 15 rfl rfl rfl (by decide)
theorem dX7_put_39 : decode cX7_put 39 = .ok (.ireturn, 1) := dqr0 dqK_172 dqw_cX7_put_22 17 rfl rfl
theorem dX7_put_40 : decode cX7_put 40 = .ok (.iload_n 1, 1) := dqr0 dqK_27 dqw_cX7_put_22 18 rfl rfl
theorem dX7_put_41 : decode cX7_put 41 = .ok (.ifCond .ne 8, 3) := dqrs2 dqK_154 dqw_cX7_put_22 19 rfl rfl rfl rfl (by decide)
theorem dX7_put_44 : decode cX7_put 44 = .ok (.aload_n 0, 1) := dqr0 dqK_42 dqw_cX7_put_22 22 rfl rfl
theorem dX7_put_45 : decode cX7_put 45 = .ok (.iconst 0, 1) := dqr0 dqK_3 dqw_cX7_put_22 23 rfl rfl
theorem dqw_cX7_put_46 : dqLF cX7_put 46 [181, 1, 83, 42, 180, 0, 101, 42, 180, 1, 83, 28, 79, 42, 89, 180, 1, 83, 4, 96, 181, 1, 83, 42] := by decide +kernel
theorem dX7_put_46 : decode cX7_put 46 = .ok (.putfield 339, 3) := dqr2 dqK_181 dqw_cX7_put_46 0 rfl rfl rfl rfl rfl
theorem dX7_put_49 : decode cX7_put 49 = .ok (.aload_n 0, 1) := dqr0 dqK_42 dqw_cX7_put_46 3 rfl rfl
theorem dX7_put_50 : decode cX7_put 50 = .ok (.getfield 101, 3) := dqr2 dqK_180 dqw_cX7_put_46 4 rfl rfl rfl rfl rfl
theorem dX7_put_53 : decode cX7_put 53 = .ok (.aload_n 0, 1) := dqr0 dqK_42 dqw_cX7_put_46 7 rfl rfl
theorem dX7_put_54 : decode cX7_put 54 = .ok (.getfield 339, 3) := dqr2 dqK_180 dqw_cX7_put_46 8 rfl rfl rfl rfl rfl
theorem dX7_put_57 : decode cX7_put 57 = .ok (.iload_n 2, 1) := dqr0 dqK_28 dqw_cX7_put_46 11 rfl rfl
theorem dX7_put_58 : decode cX7_put 58 = .ok (.iastore, 1) := dqr0 dqK_79 dqw_cX7_put_46 12 rfl rfl
theorem dX7_put_59 : decode cX7_put 59 = .ok (.aload_n 0, 1) := dqr0 dqK_42 dqw_cX7_put_46 13 rfl rfl
theorem dX7_put_60 : decode cX7_put 60 = .ok (.dup, 1) := dqr0 dqK_89 dqw_cX7_put_46 14 rfl rfl
theorem dX7_put_61 : decode cX7_put 61 = .ok (.getfield 339, 3) := dqr2 dqK_180 dqw_cX7_put_46 15 rfl rfl rfl rfl rfl
theorem dX7_put_64 : decode cX7_put 64 = .ok (.iconst 1, 1) := dqr0 dqK_4 dqw_cX7_put_46 18 rfl rfl
theorem dX7_put_65 : decode cX7_put 65 = .ok (.iadd, 1) := dqr0 dqK_96 dqw_cX7_put_46 19 rfl rfl
theorem dX7_put_66 : decode cX7_put 66 = .ok (.putfield 339, 3) := dqr2 dqK_181 dqw_cX7_put_46 20 rfl rfl rfl rfl rfl
theorem dX7_put_69 : decode cX7_put 69 = .ok (.aload_n 0, 1) := dqr0 dqK_42 dqw_cX7_put_46 23 rfl rfl
theorem dqw_cX7_put_70 : dqLF cX7_put 70 [180, 1, 83, 172] := by decide +kernel
theorem dX7_put_70 : decode cX7_put 70 = .ok (.getfield 339, 3) := dqr2 dqK_180 dqw_cX7_put_70 0 rfl rfl rfl rfl rfl
theorem dX7_put_73 : decode cX7_put 73 = .ok (.ireturn, 1) := dqr0 dqK_172 dqw_cX7_put_70 3 rfl rfl
theorem dqw_cX7_sees_0 : dqLF cX7_sees 0 [42, 29, 181, 1, 26, 3, 54, 4, 21, 4, 29, 162, 0, 22, 42, 180, 0, 104, 21, 4, 43, 28, 21, 4] := by decide +kernel
theorem dX7_sees_0 : decode cX7_sees 0 = .ok (.aload_n 0, 1) := dqr0 dqK_42 dqw_cX7_sees_0 0 rfl rfl
theorem dX7_sees_1 : decode cX7_sees 1 = .ok (.iload_n 3, 1) := dqr0 dqK_29 dqw_cX7_sees_0 1 rfl rfl
theorem dX7_sees_2 : decode cX7_sees 2 = .ok (.putfield 282, 3) := dqr2 dqK_181 dqw_cX7_sees_0 2 rfl rfl rfl rfl rfl
theorem dX7_sees_5 : decode cX7_sees 5 = .ok (.iconst 0, 1) := dqr0 dqK_3 dqw_cX7_sees_0 5 rfl rfl
theorem dX7_sees_6 : decode cX7_sees 6 = .ok (.istore 4, 2) := dqr1 dqK_54 dqw_cX7_sees_0 6 rfl rfl rfl
theorem dX7_sees_8 : decode cX7_sees 8 = .ok (.iload 4, 2) := dqr1 dqK_21 dqw_cX7_sees_0 8 rfl rfl rfl
theorem dX7_sees_10 : decode cX7_sees 10 = .ok (.iload_n 3, 1) := dqr0 dqK_29 dqw_cX7_sees_0 10 rfl rfl
theorem dX7_sees_11 : decode cX7_sees 11 = .ok (.if_icmp .ge 22, 3) := dqrs2 dqK_162 dqw_cX7_sees_0 11 rfl rfl rfl rfl (by decide)
theorem dX7_sees_14 : decode cX7_sees 14 = .ok (.aload_n 0, 1) := dqr0 dqK_42 dqw_cX7_sees_0 14 rfl rfl
theorem dX7_sees_15 : decode cX7_sees 15 = .ok (.getfield 104, 3) := dqr2 dqK_180 dqw_cX7_sees_0 15 rfl rfl rfl rfl rfl
theorem dX7_sees_18 : decode cX7_sees 18 = .ok (.iload 4, 2) := dqr1 dqK_21 dqw_cX7_sees_0 18 rfl rfl rfl
theorem dX7_sees_20 : decode cX7_sees 20 = .ok (.aload_n 1, 1) := dqr0 dqK_43 dqw_cX7_sees_0 20 rfl rfl
theorem dX7_sees_21 : decode cX7_sees 21 = .ok (.iload_n 2, 1) := dqr0 dqK_28 dqw_cX7_sees_0 21 rfl rfl
theorem dX7_sees_22 : decode cX7_sees 22 = .ok (.iload 4, 2) := dqr1 dqK_21 dqw_cX7_sees_0 22 rfl rfl rfl
theorem dqw_cX7_sees_24 : dqLF cX7_sees 24 [96, 46, 79, 132, 4, 1, 167, 255, 234, 177] := by decide +kernel
theorem dX7_sees_24 : decode cX7_sees 24 = .ok (.iadd, 1) := dqr0 dqK_96 dqw_cX7_sees_24 0 rfl rfl
theorem dX7_sees_25 : decode cX7_sees 25 = .ok (.iaload, 1) := dqr0 dqK_46 dqw_cX7_sees_24 1 rfl rfl
theorem dX7_sees_26 : decode cX7_sees 26 = .ok (.iastore, 1) := dqr0 dqK_79 dqw_cX7_sees_24 2 rfl rfl
theorem dX7_sees_27 : decode cX7_sees 27 = .ok (.iinc 4 1, 3) := dqri dqK_132 dqw_cX7_sees_24 3 rfl rfl rfl rfl (by decide)
theorem dX7_sees_30 : decode cX7_sees 30 = .ok (.goto (-22), 3) := dqrs2 dqK_167 dqw_cX7_sees_24 6 rfl rfl rfl rfl (by decide)
theorem dX7_sees_33 : decode cX7_sees 33 = .ok (.return_, 1) := dqr0 dqK_177 dqw_cX7_sees_24 9 rfl rfl
theorem dqw_cX7_runs_0 : dqLF cX7_runs 0 [42, 27, 182, 0, 220, 153, 0, 20, 42, 28, 182, 1, 4, 153, 0, 12, 42, 21, 4, 182, 1, 70] := by decide +kernel
theorem dX7_runs_0 : decode cX7_runs 0 = .ok (.aload_n 0, 1) := dqr0 dqK_42 dqw_cX7_runs_0 0 rfl rfl
theorem dX7_runs_1 : decode cX7_runs 1 = .ok (.iload_n 1, 1) := dqr0 dqK_27 dqw_cX7_runs_0 1 rfl rfl
theorem dX7_runs_2 : decode cX7_runs 2 = .ok (.invokevirtual 220, 3) := dqr2 dqK_182 dqw_cX7_runs_0 2 rfl rfl rfl rfl rfl
theorem dX7_runs_5 : decode cX7_runs 5 = .ok (.ifCond .eq 20, 3) := dqrs2 dqK_153 dqw_cX7_runs_0 5 rfl rfl rfl rfl (by decide)
theorem dX7_runs_8 : decode cX7_runs 8 = .ok (.aload_n 0, 1) := dqr0 dqK_42 dqw_cX7_runs_0 8 rfl rfl
theorem dX7_runs_9 : decode cX7_runs 9 = .ok (.iload_n 2, 1) := dqr0 dqK_28 dqw_cX7_runs_0 9 rfl rfl
theorem dX7_runs_10 : decode cX7_runs 10 = .ok (.invokevirtual 260, 3) := dqr2 dqK_182 dqw_cX7_runs_0 10 rfl rfl rfl rfl rfl
theorem dX7_runs_13 : decode cX7_runs 13 = .ok (.ifCond .eq 12, 3) := dqrs2 dqK_153 dqw_cX7_runs_0 13 rfl rfl rfl rfl (by decide)
theorem dX7_runs_16 : decode cX7_runs 16 = .ok (.aload_n 0, 1) := dqr0 dqK_42 dqw_cX7_runs_0 16 rfl rfl
theorem dX7_runs_17 : decode cX7_runs 17 = .ok (.iload 4, 2) := dqr1 dqK_21 dqw_cX7_runs_0 17 rfl rfl rfl
theorem dX7_runs_19 : decode cX7_runs 19 = .ok (.invokevirtual 326, 3) := dqr2 dqK_182 dqw_cX7_runs_0 19 rfl rfl rfl rfl rfl
theorem dqw_cX7_runs_22 : dqLF cX7_runs 22 [154, 0, 5, 2, 172, 29, 184, 1, 7, 154, 0, 6, 16, 254, 172, 42, 180, 1, 83, 154, 0, 6, 16, 253] := by decide +kernel
theorem dX7_runs_22 : decode cX7_runs 22 = .ok (.ifCond .ne 5, 3) := dqrs2 dqK_154 dqw_cX7_runs_22 0 rfl rfl rfl rfl (by decide)
theorem dX7_runs_25 : decode cX7_runs 25 = .ok (.iconst (-1), 1) := dqr0 dqK_2 dqw_cX7_runs_22 3 rfl rfl
theorem dX7_runs_26 : decode cX7_runs 26 = .ok (.ireturn, 1) := dqr0 dqK_172 dqw_cX7_runs_22 4 rfl rfl
theorem dX7_runs_27 : decode cX7_runs 27 = .ok (.iload_n 3, 1) := dqr0 dqK_29 dqw_cX7_runs_22 5 rfl rfl
theorem dX7_runs_28 : decode cX7_runs 28 = .ok (.invokestatic 263, 3) := dqr2 dqK_184 dqw_cX7_runs_22 6 rfl rfl rfl rfl rfl
theorem dX7_runs_31 : decode cX7_runs 31 = .ok (.ifCond .ne 6, 3) := dqrs2 dqK_154 dqw_cX7_runs_22 9 rfl rfl rfl rfl (by decide)
theorem dX7_runs_34 : decode cX7_runs 34 = .ok (.bipush (-2), 2) := dqrs1 dqK_16 dqw_cX7_runs_22 12 rfl rfl rfl (by decide)
theorem dX7_runs_36 : decode cX7_runs 36 = .ok (.ireturn, 1) := dqr0 dqK_172 dqw_cX7_runs_22 14 rfl rfl
theorem dX7_runs_37 : decode cX7_runs 37 = .ok (.aload_n 0, 1) := dqr0 dqK_42 dqw_cX7_runs_22 15 rfl rfl
theorem dX7_runs_38 : decode cX7_runs 38 = .ok (.getfield 339, 3) := dqr2 dqK_180 dqw_cX7_runs_22 16 rfl rfl rfl rfl rfl
theorem dX7_runs_41 : decode cX7_runs 41 = .ok (.ifCond .ne 6, 3) := dqrs2 dqK_154 dqw_cX7_runs_22 19 rfl rfl rfl rfl (by decide)
theorem dX7_runs_44 : decode cX7_runs 44 = .ok (.bipush (-3), 2) := dqrs1 dqK_16 dqw_cX7_runs_22 22 rfl rfl rfl (by decide)
theorem dqw_cX7_runs_46 : dqLF cX7_runs 46 [172, 42, 28, 29, 42, 21, 4, 182, 1, 73, 182, 1, 13, 42, 42, 180, 0, 101, 3, 42, 180, 1, 83] := by decide +kernel
theorem dX7_runs_46 : decode cX7_runs 46 = .ok (.ireturn, 1) := dqr0 dqK_172 dqw_cX7_runs_46 0 rfl rfl
theorem dX7_runs_47 : decode cX7_runs 47 = .ok (.aload_n 0, 1) := dqr0 dqK_42 dqw_cX7_runs_46 1 rfl rfl
theorem dX7_runs_48 : decode cX7_runs 48 = .ok (.iload_n 2, 1) := dqr0 dqK_28 dqw_cX7_runs_46 2 rfl rfl
theorem dX7_runs_49 : decode cX7_runs 49 = .ok (.iload_n 3, 1) := dqr0 dqK_29 dqw_cX7_runs_46 3 rfl rfl
theorem dX7_runs_50 : decode cX7_runs 50 = .ok (.aload_n 0, 1) := dqr0 dqK_42 dqw_cX7_runs_46 4 rfl rfl
theorem dX7_runs_51 : decode cX7_runs 51 = .ok (.iload 4, 2) := dqr1 dqK_21 dqw_cX7_runs_46 5 rfl rfl rfl
theorem dX7_runs_53 : decode cX7_runs 53 = .ok (.invokevirtual 329, 3) := dqr2 dqK_182 dqw_cX7_runs_46 7 rfl rfl rfl rfl rfl
theorem dX7_runs_56 : decode cX7_runs 56 = .ok (.invokevirtual 269, 3) := dqr2 dqK_182 dqw_cX7_runs_46 10 rfl rfl rfl rfl rfl
theorem dX7_runs_59 : decode cX7_runs 59 = .ok (.aload_n 0, 1) := dqr0 dqK_42 dqw_cX7_runs_46 13 rfl rfl
theorem dX7_runs_60 : decode cX7_runs 60 = .ok (.aload_n 0, 1) := dqr0 dqK_42 dqw_cX7_runs_46 14 rfl rfl
theorem dX7_runs_61 : decode cX7_runs 61 = .ok (.getfield 101, 3) := dqr2 dqK_180 dqw_cX7_runs_46 15 rfl rfl rfl rfl rfl
theorem dX7_runs_64 : decode cX7_runs 64 = .ok (.iconst 0, 1) := dqr0 dqK_3 dqw_cX7_runs_46 18 rfl rfl
theorem dX7_runs_65 : decode cX7_runs 65 = .ok (.aload_n 0, 1) := dqr0 dqK_42 dqw_cX7_runs_46 19 rfl rfl
theorem dX7_runs_66 : decode cX7_runs 66 = .ok (.getfield 339, 3) := dqr2 dqK_180 dqw_cX7_runs_46 20 rfl rfl rfl rfl rfl
theorem dqw_cX7_runs_69 : dqLF cX7_runs 69 [182, 1, 86, 42, 27, 182, 1, 90, 172] := by decide +kernel
theorem dX7_runs_69 : decode cX7_runs 69 = .ok (.invokevirtual 342, 3) := dqr2 dqK_182 dqw_cX7_runs_69 0 rfl rfl rfl rfl rfl
theorem dX7_runs_72 : decode cX7_runs 72 = .ok (.aload_n 0, 1) := dqr0 dqK_42 dqw_cX7_runs_69 3 rfl rfl
theorem dX7_runs_73 : decode cX7_runs 73 = .ok (.iload_n 1, 1) := dqr0 dqK_27 dqw_cX7_runs_69 4 rfl rfl
theorem dX7_runs_74 : decode cX7_runs 74 = .ok (.invokevirtual 346, 3) := dqr2 dqK_182 dqw_cX7_runs_69 5 rfl rfl rfl rfl rfl
theorem dX7_runs_77 : decode cX7_runs 77 = .ok (.ireturn, 1) := dqr0 dqK_172 dqw_cX7_runs_69 8 rfl rfl
theorem dqw_cX7_isForged_0 : dqLF cX7_isForged 0 [42, 27, 28, 29, 21, 4, 182, 1, 66, 153, 0, 5, 3, 172, 3, 54, 5, 21, 5, 42, 180, 1, 57] := by decide +kernel
theorem dX7_isForged_0 : decode cX7_isForged 0 = .ok (.aload_n 0, 1) := dqr0 dqK_42 dqw_cX7_isForged_0 0 rfl rfl
theorem dX7_isForged_1 : decode cX7_isForged 1 = .ok (.iload_n 1, 1) := dqr0 dqK_27 dqw_cX7_isForged_0 1 rfl rfl
theorem dX7_isForged_2 : decode cX7_isForged 2 = .ok (.iload_n 2, 1) := dqr0 dqK_28 dqw_cX7_isForged_0 2 rfl rfl
theorem dX7_isForged_3 : decode cX7_isForged 3 = .ok (.iload_n 3, 1) := dqr0 dqK_29 dqw_cX7_isForged_0 3 rfl rfl
theorem dX7_isForged_4 : decode cX7_isForged 4 = .ok (.iload 4, 2) := dqr1 dqK_21 dqw_cX7_isForged_0 4 rfl rfl rfl
theorem dX7_isForged_6 : decode cX7_isForged 6 = .ok (.invokevirtual 322, 3) := dqr2 dqK_182 dqw_cX7_isForged_0 6 rfl rfl rfl rfl rfl
theorem dX7_isForged_9 : decode cX7_isForged 9 = .ok (.ifCond .eq 5, 3) := dqrs2 dqK_153 dqw_cX7_isForged_0 9 rfl rfl rfl rfl (by decide)
theorem dX7_isForged_12 : decode cX7_isForged 12 = .ok (.iconst 0, 1) := dqr0 dqK_3 dqw_cX7_isForged_0 12 rfl rfl
theorem dX7_isForged_13 : decode cX7_isForged 13 = .ok (.ireturn, 1) := dqr0 dqK_172 dqw_cX7_isForged_0 13 rfl rfl
theorem dX7_isForged_14 : decode cX7_isForged 14 = .ok (.iconst 0, 1) := dqr0 dqK_3 dqw_cX7_isForged_0 14 rfl rfl
theorem dX7_isForged_15 : decode cX7_isForged 15 = .ok (.istore 5, 2) := dqr1 dqK_54 dqw_cX7_isForged_0 15 rfl rfl rfl
theorem dX7_isForged_17 : decode cX7_isForged 17 = .ok (.iload 5, 2) := dqr1 dqK_21 dqw_cX7_isForged_0 17 rfl rfl rfl
theorem dX7_isForged_19 : decode cX7_isForged 19 = .ok (.aload_n 0, 1) := dqr0 dqK_42 dqw_cX7_isForged_0 19 rfl rfl
theorem dX7_isForged_20 : decode cX7_isForged 20 = .ok (.getfield 313, 3) := dqr2 dqK_180 dqw_cX7_isForged_0 20 rfl rfl rfl rfl rfl
theorem dqw_cX7_isForged_23 : dqLF cX7_isForged 23 [162, 0, 62, 42, 27, 29, 21, 4, 182, 1, 80, 21, 5, 159, 0, 16, 42, 21, 5, 29, 21, 4] := by decide +kernel
theorem dX7_isForged_23 : decode cX7_isForged 23 = .ok (.if_icmp .ge 62, 3) := dqrs2 dqK_162 dqw_cX7_isForged_23 0 rfl rfl rfl rfl (by decide)
theorem dX7_isForged_26 : decode cX7_isForged 26 = .ok (.aload_n 0, 1) := dqr0 dqK_42 dqw_cX7_isForged_23 3 rfl rfl
theorem dX7_isForged_27 : decode cX7_isForged 27 = .ok (.iload_n 1, 1) := dqr0 dqK_27 dqw_cX7_isForged_23 4 rfl rfl
theorem dX7_isForged_28 : decode cX7_isForged 28 = .ok (.iload_n 3, 1) := dqr0 dqK_29 dqw_cX7_isForged_23 5 rfl rfl
theorem dX7_isForged_29 : decode cX7_isForged 29 = .ok (.iload 4, 2) := dqr1 dqK_21 dqw_cX7_isForged_23 6 rfl rfl rfl
theorem dX7_isForged_31 : decode cX7_isForged 31 = .ok (.invokevirtual 336, 3) := dqr2 dqK_182 dqw_cX7_isForged_23 8 rfl rfl rfl rfl rfl
theorem dX7_isForged_34 : decode cX7_isForged 34 = .ok (.iload 5, 2) := dqr1 dqK_21 dqw_cX7_isForged_23 11 rfl rfl rfl
theorem dX7_isForged_36 : decode cX7_isForged 36 = .ok (.if_icmp .eq 16, 3) := dqrs2 dqK_159 dqw_cX7_isForged_23 13 rfl rfl rfl rfl (by decide)
theorem dX7_isForged_39 : decode cX7_isForged 39 = .ok (.aload_n 0, 1) := dqr0 dqK_42 dqw_cX7_isForged_23 16 rfl rfl
theorem dX7_isForged_40 : decode cX7_isForged 40 = .ok (.iload 5, 2) := dqr1 dqK_21 dqw_cX7_isForged_23 17 rfl rfl rfl
theorem dX7_isForged_42 : decode cX7_isForged 42 = .ok (.iload_n 3, 1) := dqr0 dqK_29 dqw_cX7_isForged_23 19 rfl rfl
theorem dX7_isForged_43 : decode cX7_isForged 43 = .ok (.iload 4, 2) := dqr1 dqK_21 dqw_cX7_isForged_23 20 rfl rfl rfl
theorem dqw_cX7_isForged_45 : dqLF cX7_isForged 45 [182, 1, 80, 27, 160, 0, 7, 4, 167, 0, 4, 3, 54, 6, 21, 6, 153, 0, 18, 42, 21, 5, 28, 29] := by decide +kernel
theorem dX7_isForged_45 : decode cX7_isForged 45 = .ok (.invokevirtual 336, 3) := dqr2 dqK_182 dqw_cX7_isForged_45 0 rfl rfl rfl rfl rfl
theorem dX7_isForged_48 : decode cX7_isForged 48 = .ok (.iload_n 1, 1) := dqr0 dqK_27 dqw_cX7_isForged_45 3 rfl rfl
theorem dX7_isForged_49 : decode cX7_isForged 49 = .ok (.if_icmp .ne 7, 3) := dqrs2 dqK_160 dqw_cX7_isForged_45 4 rfl rfl rfl rfl (by decide)
theorem dX7_isForged_52 : decode cX7_isForged 52 = .ok (.iconst 1, 1) := dqr0 dqK_4 dqw_cX7_isForged_45 7 rfl rfl
theorem dX7_isForged_53 : decode cX7_isForged 53 = .ok (.goto 4, 3) := dqrs2 dqK_167 dqw_cX7_isForged_45 8 rfl rfl rfl rfl (by decide)
theorem dX7_isForged_56 : decode cX7_isForged 56 = .ok (.iconst 0, 1) := dqr0 dqK_3 dqw_cX7_isForged_45 11 rfl rfl
theorem dX7_isForged_57 : decode cX7_isForged 57 = .ok (.istore 6, 2) := dqr1 dqK_54 dqw_cX7_isForged_45 12 rfl rfl rfl
theorem dX7_isForged_59 : decode cX7_isForged 59 = .ok (.iload 6, 2) := dqr1 dqK_21 dqw_cX7_isForged_45 14 rfl rfl rfl
theorem dX7_isForged_61 : decode cX7_isForged 61 = .ok (.ifCond .eq 18, 3) := dqrs2 dqK_153 dqw_cX7_isForged_45 16 rfl rfl rfl rfl (by decide)
theorem dX7_isForged_64 : decode cX7_isForged 64 = .ok (.aload_n 0, 1) := dqr0 dqK_42 dqw_cX7_isForged_45 19 rfl rfl
theorem dX7_isForged_65 : decode cX7_isForged 65 = .ok (.iload 5, 2) := dqr1 dqK_21 dqw_cX7_isForged_45 20 rfl rfl rfl
theorem dX7_isForged_67 : decode cX7_isForged 67 = .ok (.iload_n 2, 1) := dqr0 dqK_28 dqw_cX7_isForged_45 22 rfl rfl
theorem dX7_isForged_68 : decode cX7_isForged 68 = .ok (.iload_n 3, 1) := dqr0 dqK_29 dqw_cX7_isForged_45 23 rfl rfl
theorem dqw_cX7_isForged_69 : dqLF cX7_isForged 69 [21, 4, 182, 1, 66, 153, 0, 5, 3, 172, 132, 5, 1, 167, 255, 191, 4, 172] := by decide +kernel
theorem dX7_isForged_69 : decode cX7_isForged 69 = .ok (.iload 4, 2) := dqr1 dqK_21 dqw_cX7_isForged_69 0 rfl rfl rfl
theorem dX7_isForged_71 : decode cX7_isForged 71 = .ok (.invokevirtual 322, 3) := dqr2 dqK_182 dqw_cX7_isForged_69 2 rfl rfl rfl rfl rfl
theorem dX7_isForged_74 : decode cX7_isForged 74 = .ok (.ifCond .eq 5, 3) := dqrs2 dqK_153 dqw_cX7_isForged_69 5 rfl rfl rfl rfl (by decide)
theorem dX7_isForged_77 : decode cX7_isForged 77 = .ok (.iconst 0, 1) := dqr0 dqK_3 dqw_cX7_isForged_69 8 rfl rfl
theorem dX7_isForged_78 : decode cX7_isForged 78 = .ok (.ireturn, 1) := dqr0 dqK_172 dqw_cX7_isForged_69 9 rfl rfl
theorem dX7_isForged_79 : decode cX7_isForged 79 = .ok (.iinc 5 1, 3) := dqri dqK_132 dqw_cX7_isForged_69 10 rfl rfl rfl rfl (by decide)
theorem dX7_isForged_82 : decode cX7_isForged 82 = .ok (.goto (-65), 3) := dqrs2 dqK_167 dqw_cX7_isForged_69 13 rfl rfl rfl rfl (by decide)
theorem dX7_isForged_85 : decode cX7_isForged 85 = .ok (.iconst 1, 1) := dqr0 dqK_4 dqw_cX7_isForged_69 16 rfl rfl
theorem dX7_isForged_86 : decode cX7_isForged 86 = .ok (.ireturn, 1) := dqr0 dqK_172 dqw_cX7_isForged_69 17 rfl rfl
theorem dqw_cX7_forged_0 : dqLF cX7_forged 0 [42, 27, 182, 1, 4, 153, 0, 11, 42, 29, 182, 1, 70, 154, 0, 5, 2, 172, 28, 184, 1, 7] := by decide +kernel
theorem dX7_forged_0 : decode cX7_forged 0 = .ok (.aload_n 0, 1) := dqr0 dqK_42 dqw_cX7_forged_0 0 rfl rfl
theorem dX7_forged_1 : decode cX7_forged 1 = .ok (.iload_n 1, 1) := dqr0 dqK_27 dqw_cX7_forged_0 1 rfl rfl
theorem dX7_forged_2 : decode cX7_forged 2 = .ok (.invokevirtual 260, 3) := dqr2 dqK_182 dqw_cX7_forged_0 2 rfl rfl rfl rfl rfl
theorem dX7_forged_5 : decode cX7_forged 5 = .ok (.ifCond .eq 11, 3) := dqrs2 dqK_153 dqw_cX7_forged_0 5 rfl rfl rfl rfl (by decide)
theorem dX7_forged_8 : decode cX7_forged 8 = .ok (.aload_n 0, 1) := dqr0 dqK_42 dqw_cX7_forged_0 8 rfl rfl
theorem dX7_forged_9 : decode cX7_forged 9 = .ok (.iload_n 3, 1) := dqr0 dqK_29 dqw_cX7_forged_0 9 rfl rfl
theorem dX7_forged_10 : decode cX7_forged 10 = .ok (.invokevirtual 326, 3) := dqr2 dqK_182 dqw_cX7_forged_0 10 rfl rfl rfl rfl rfl
theorem dX7_forged_13 : decode cX7_forged 13 = .ok (.ifCond .ne 5, 3) := dqrs2 dqK_154 dqw_cX7_forged_0 13 rfl rfl rfl rfl (by decide)
theorem dX7_forged_16 : decode cX7_forged 16 = .ok (.iconst (-1), 1) := dqr0 dqK_2 dqw_cX7_forged_0 16 rfl rfl
theorem dX7_forged_17 : decode cX7_forged 17 = .ok (.ireturn, 1) := dqr0 dqK_172 dqw_cX7_forged_0 17 rfl rfl
theorem dX7_forged_18 : decode cX7_forged 18 = .ok (.iload_n 2, 1) := dqr0 dqK_28 dqw_cX7_forged_0 18 rfl rfl
theorem dX7_forged_19 : decode cX7_forged 19 = .ok (.invokestatic 263, 3) := dqr2 dqK_184 dqw_cX7_forged_0 19 rfl rfl rfl rfl rfl
theorem dqw_cX7_forged_22 : dqLF cX7_forged 22 [154, 0, 6, 16, 254, 172, 42, 180, 1, 83, 154, 0, 6, 16, 253, 172, 3, 54, 4, 21, 4, 42] := by decide +kernel
theorem dX7_forged_22 : decode cX7_forged 22 = .ok (.ifCond .ne 6, 3) := dqrs2 dqK_154 dqw_cX7_forged_22 0 rfl rfl rfl rfl (by decide)
theorem dX7_forged_25 : decode cX7_forged 25 = .ok (.bipush (-2), 2) := dqrs1 dqK_16 dqw_cX7_forged_22 3 rfl rfl rfl (by decide)
theorem dX7_forged_27 : decode cX7_forged 27 = .ok (.ireturn, 1) := dqr0 dqK_172 dqw_cX7_forged_22 5 rfl rfl
theorem dX7_forged_28 : decode cX7_forged 28 = .ok (.aload_n 0, 1) := dqr0 dqK_42 dqw_cX7_forged_22 6 rfl rfl
theorem dX7_forged_29 : decode cX7_forged 29 = .ok (.getfield 339, 3) := dqr2 dqK_180 dqw_cX7_forged_22 7 rfl rfl rfl rfl rfl
theorem dX7_forged_32 : decode cX7_forged 32 = .ok (.ifCond .ne 6, 3) := dqrs2 dqK_154 dqw_cX7_forged_22 10 rfl rfl rfl rfl (by decide)
theorem dX7_forged_35 : decode cX7_forged 35 = .ok (.bipush (-3), 2) := dqrs1 dqK_16 dqw_cX7_forged_22 13 rfl rfl rfl (by decide)
theorem dX7_forged_37 : decode cX7_forged 37 = .ok (.ireturn, 1) := dqr0 dqK_172 dqw_cX7_forged_22 15 rfl rfl
theorem dX7_forged_38 : decode cX7_forged 38 = .ok (.iconst 0, 1) := dqr0 dqK_3 dqw_cX7_forged_22 16 rfl rfl
theorem dX7_forged_39 : decode cX7_forged 39 = .ok (.istore 4, 2) := dqr1 dqK_54 dqw_cX7_forged_22 17 rfl rfl rfl
theorem dX7_forged_41 : decode cX7_forged 41 = .ok (.iload 4, 2) := dqr1 dqK_21 dqw_cX7_forged_22 19 rfl rfl rfl
theorem dX7_forged_43 : decode cX7_forged 43 = .ok (.aload_n 0, 1) := dqr0 dqK_42 dqw_cX7_forged_22 21 rfl rfl
theorem dqw_cX7_forged_44 : dqLF cX7_forged 44 [180, 1, 83, 162, 0, 45, 42, 180, 0, 101, 21, 4, 46, 16, 40, 159, 0, 27, 42, 27, 42, 180, 0, 101] := by decide +kernel
theorem dX7_forged_44 : decode cX7_forged 44 = .ok (.getfield 339, 3) := dqr2 dqK_180 dqw_cX7_forged_44 0 rfl rfl rfl rfl rfl
theorem dX7_forged_47 : decode cX7_forged 47 = .ok (.if_icmp .ge 45, 3) := dqrs2 dqK_162 dqw_cX7_forged_44 3 rfl rfl rfl rfl (by decide)
theorem dX7_forged_50 : decode cX7_forged 50 = .ok (.aload_n 0, 1) := dqr0 dqK_42 dqw_cX7_forged_44 6 rfl rfl
theorem dX7_forged_51 : decode cX7_forged 51 = .ok (.getfield 101, 3) := dqr2 dqK_180 dqw_cX7_forged_44 7 rfl rfl rfl rfl rfl
theorem dX7_forged_54 : decode cX7_forged 54 = .ok (.iload 4, 2) := dqr1 dqK_21 dqw_cX7_forged_44 10 rfl rfl rfl
theorem dX7_forged_56 : decode cX7_forged 56 = .ok (.iaload, 1) := dqr0 dqK_46 dqw_cX7_forged_44 12 rfl rfl
theorem dX7_forged_57 : decode cX7_forged 57 = .ok (.bipush 40, 2) := dqrs1 dqK_16 dqw_cX7_forged_44 13 rfl rfl rfl (by decide)
theorem dX7_forged_59 : decode cX7_forged 59 = .ok (.if_icmp .eq 27, 3) := dqrs2 dqK_159 dqw_cX7_forged_44 15 rfl rfl rfl rfl (by decide)
theorem dX7_forged_62 : decode cX7_forged 62 = .ok (.aload_n 0, 1) := dqr0 dqK_42 dqw_cX7_forged_44 18 rfl rfl
theorem dX7_forged_63 : decode cX7_forged 63 = .ok (.iload_n 1, 1) := dqr0 dqK_27 dqw_cX7_forged_44 19 rfl rfl
theorem dX7_forged_64 : decode cX7_forged 64 = .ok (.aload_n 0, 1) := dqr0 dqK_42 dqw_cX7_forged_44 20 rfl rfl
theorem dX7_forged_65 : decode cX7_forged 65 = .ok (.getfield 101, 3) := dqr2 dqK_180 dqw_cX7_forged_44 21 rfl rfl rfl rfl rfl
theorem dqw_cX7_forged_68 : dqLF cX7_forged 68 [21, 4, 46, 28, 42, 29, 182, 1, 73, 182, 1, 93, 153, 0, 6, 21, 4, 172, 132, 4, 1, 167, 255, 208] := by decide +kernel
theorem dX7_forged_68 : decode cX7_forged 68 = .ok (.iload 4, 2) := dqr1 dqK_21 dqw_cX7_forged_68 0 rfl rfl rfl
theorem dX7_forged_70 : decode cX7_forged 70 = .ok (.iaload, 1) := dqr0 dqK_46 dqw_cX7_forged_68 2 rfl rfl
theorem dX7_forged_71 : decode cX7_forged 71 = .ok (.iload_n 2, 1) := dqr0 dqK_28 dqw_cX7_forged_68 3 rfl rfl
theorem dX7_forged_72 : decode cX7_forged 72 = .ok (.aload_n 0, 1) := dqr0 dqK_42 dqw_cX7_forged_68 4 rfl rfl
theorem dX7_forged_73 : decode cX7_forged 73 = .ok (.iload_n 3, 1) := dqr0 dqK_29 dqw_cX7_forged_68 5 rfl rfl
theorem dX7_forged_74 : decode cX7_forged 74 = .ok (.invokevirtual 329, 3) := dqr2 dqK_182 dqw_cX7_forged_68 6 rfl rfl rfl rfl rfl
theorem dX7_forged_77 : decode cX7_forged 77 = .ok (.invokevirtual 349, 3) := dqr2 dqK_182 dqw_cX7_forged_68 9 rfl rfl rfl rfl rfl
theorem dX7_forged_80 : decode cX7_forged 80 = .ok (.ifCond .eq 6, 3) := dqrs2 dqK_153 dqw_cX7_forged_68 12 rfl rfl rfl rfl (by decide)
theorem dX7_forged_83 : decode cX7_forged 83 = .ok (.iload 4, 2) := dqr1 dqK_21 dqw_cX7_forged_68 15 rfl rfl rfl
theorem dX7_forged_85 : decode cX7_forged 85 = .ok (.ireturn, 1) := dqr0 dqK_172 dqw_cX7_forged_68 17 rfl rfl
theorem dX7_forged_86 : decode cX7_forged 86 = .ok (.iinc 4 1, 3) := dqri dqK_132 dqw_cX7_forged_68 18 rfl rfl rfl rfl (by decide)
theorem dX7_forged_89 : decode cX7_forged 89 = .ok (.goto (-48), 3) := dqrs2 dqK_167 dqw_cX7_forged_68 21 rfl rfl rfl rfl (by decide)
theorem dqw_cX7_forged_92 : dqLF cX7_forged 92 [16, 251, 172] := by decide +kernel
theorem dX7_forged_92 : decode cX7_forged 92 = .ok (.bipush (-5), 2) := dqrs1 dqK_16 dqw_cX7_forged_92 0 rfl rfl rfl (by decide)
theorem dX7_forged_94 : decode cX7_forged 94 = .ok (.ireturn, 1) := dqr0 dqK_172 dqw_cX7_forged_92 2 rfl rfl
theorem dqw_cX7_record_0 : dqLF cX7_record 0 [42, 27, 182, 1, 4, 153, 0, 11, 42, 28, 182, 0, 220, 154, 0, 5, 2, 172, 29, 184, 1, 7] := by decide +kernel
theorem dX7_record_0 : decode cX7_record 0 = .ok (.aload_n 0, 1) := dqr0 dqK_42 dqw_cX7_record_0 0 rfl rfl
theorem dX7_record_1 : decode cX7_record 1 = .ok (.iload_n 1, 1) := dqr0 dqK_27 dqw_cX7_record_0 1 rfl rfl
theorem dX7_record_2 : decode cX7_record 2 = .ok (.invokevirtual 260, 3) := dqr2 dqK_182 dqw_cX7_record_0 2 rfl rfl rfl rfl rfl
theorem dX7_record_5 : decode cX7_record 5 = .ok (.ifCond .eq 11, 3) := dqrs2 dqK_153 dqw_cX7_record_0 5 rfl rfl rfl rfl (by decide)
theorem dX7_record_8 : decode cX7_record 8 = .ok (.aload_n 0, 1) := dqr0 dqK_42 dqw_cX7_record_0 8 rfl rfl
theorem dX7_record_9 : decode cX7_record 9 = .ok (.iload_n 2, 1) := dqr0 dqK_28 dqw_cX7_record_0 9 rfl rfl
theorem dX7_record_10 : decode cX7_record 10 = .ok (.invokevirtual 220, 3) := dqr2 dqK_182 dqw_cX7_record_0 10 rfl rfl rfl rfl rfl
theorem dX7_record_13 : decode cX7_record 13 = .ok (.ifCond .ne 5, 3) := dqrs2 dqK_154 dqw_cX7_record_0 13 rfl rfl rfl rfl (by decide)
theorem dX7_record_16 : decode cX7_record 16 = .ok (.iconst (-1), 1) := dqr0 dqK_2 dqw_cX7_record_0 16 rfl rfl
theorem dX7_record_17 : decode cX7_record 17 = .ok (.ireturn, 1) := dqr0 dqK_172 dqw_cX7_record_0 17 rfl rfl
theorem dX7_record_18 : decode cX7_record 18 = .ok (.iload_n 3, 1) := dqr0 dqK_29 dqw_cX7_record_0 18 rfl rfl
theorem dX7_record_19 : decode cX7_record 19 = .ok (.invokestatic 263, 3) := dqr2 dqK_184 dqw_cX7_record_0 19 rfl rfl rfl rfl rfl
theorem dqw_cX7_record_22 : dqLF cX7_record 22 [154, 0, 6, 16, 254, 172, 42, 180, 1, 83, 154, 0, 6, 16, 253, 172, 42, 180, 1, 96, 16, 12] := by decide +kernel
theorem dX7_record_22 : decode cX7_record 22 = .ok (.ifCond .ne 6, 3) := dqrs2 dqK_154 dqw_cX7_record_22 0 rfl rfl rfl rfl (by decide)
theorem dX7_record_25 : decode cX7_record 25 = .ok (.bipush (-2), 2) := dqrs1 dqK_16 dqw_cX7_record_22 3 rfl rfl rfl (by decide)
theorem dX7_record_27 : decode cX7_record 27 = .ok (.ireturn, 1) := dqr0 dqK_172 dqw_cX7_record_22 5 rfl rfl
theorem dX7_record_28 : decode cX7_record 28 = .ok (.aload_n 0, 1) := dqr0 dqK_42 dqw_cX7_record_22 6 rfl rfl
theorem dX7_record_29 : decode cX7_record 29 = .ok (.getfield 339, 3) := dqr2 dqK_180 dqw_cX7_record_22 7 rfl rfl rfl rfl rfl
theorem dX7_record_32 : decode cX7_record 32 = .ok (.ifCond .ne 6, 3) := dqrs2 dqK_154 dqw_cX7_record_22 10 rfl rfl rfl rfl (by decide)
theorem dX7_record_35 : decode cX7_record 35 = .ok (.bipush (-3), 2) := dqrs1 dqK_16 dqw_cX7_record_22 13 rfl rfl rfl (by decide)
theorem dX7_record_37 : decode cX7_record 37 = .ok (.ireturn, 1) := dqr0 dqK_172 dqw_cX7_record_22 15 rfl rfl
theorem dX7_record_38 : decode cX7_record 38 = .ok (.aload_n 0, 1) := dqr0 dqK_42 dqw_cX7_record_22 16 rfl rfl
theorem dX7_record_39 : decode cX7_record 39 = .ok (.getfield 352, 3) := dqr2 dqK_180 dqw_cX7_record_22 17 rfl rfl rfl rfl rfl
theorem dX7_record_42 : decode cX7_record 42 = .ok (.bipush 12, 2) := dqrs1 dqK_16 dqw_cX7_record_22 20 rfl rfl rfl (by decide)
theorem dqw_cX7_record_44 : dqLF cX7_record 44 [160, 0, 6, 16, 252, 172, 42, 180, 0, 129, 42, 180, 1, 96, 27, 79, 42, 180, 0, 132, 42, 180, 1, 96] := by decide +kernel
theorem dX7_record_44 : decode cX7_record 44 = .ok (.if_icmp .ne 6, 3) := dqrs2 dqK_160 dqw_cX7_record_44 0 rfl rfl rfl rfl (by decide)
theorem dX7_record_47 : decode cX7_record 47 = .ok (.bipush (-4), 2) := dqrs1 dqK_16 dqw_cX7_record_44 3 rfl rfl rfl (by decide)
theorem dX7_record_49 : decode cX7_record 49 = .ok (.ireturn, 1) := dqr0 dqK_172 dqw_cX7_record_44 5 rfl rfl
theorem dX7_record_50 : decode cX7_record 50 = .ok (.aload_n 0, 1) := dqr0 dqK_42 dqw_cX7_record_44 6 rfl rfl
theorem dX7_record_51 : decode cX7_record 51 = .ok (.getfield 129, 3) := dqr2 dqK_180 dqw_cX7_record_44 7 rfl rfl rfl rfl rfl
theorem dX7_record_54 : decode cX7_record 54 = .ok (.aload_n 0, 1) := dqr0 dqK_42 dqw_cX7_record_44 10 rfl rfl
theorem dX7_record_55 : decode cX7_record 55 = .ok (.getfield 352, 3) := dqr2 dqK_180 dqw_cX7_record_44 11 rfl rfl rfl rfl rfl
theorem dX7_record_58 : decode cX7_record 58 = .ok (.iload_n 1, 1) := dqr0 dqK_27 dqw_cX7_record_44 14 rfl rfl
theorem dX7_record_59 : decode cX7_record 59 = .ok (.iastore, 1) := dqr0 dqK_79 dqw_cX7_record_44 15 rfl rfl
theorem dX7_record_60 : decode cX7_record 60 = .ok (.aload_n 0, 1) := dqr0 dqK_42 dqw_cX7_record_44 16 rfl rfl
theorem dX7_record_61 : decode cX7_record 61 = .ok (.getfield 132, 3) := dqr2 dqK_180 dqw_cX7_record_44 17 rfl rfl rfl rfl rfl
theorem dX7_record_64 : decode cX7_record 64 = .ok (.aload_n 0, 1) := dqr0 dqK_42 dqw_cX7_record_44 20 rfl rfl
theorem dX7_record_65 : decode cX7_record 65 = .ok (.getfield 352, 3) := dqr2 dqK_180 dqw_cX7_record_44 21 rfl rfl rfl rfl rfl
theorem dqw_cX7_record_68 : dqLF cX7_record 68 [28, 79, 42, 180, 0, 135, 42, 180, 1, 96, 29, 79, 42, 180, 0, 138, 42, 180, 1, 96, 42, 180, 1, 83] := by decide +kernel
theorem dX7_record_68 : decode cX7_record 68 = .ok (.iload_n 2, 1) := dqr0 dqK_28 dqw_cX7_record_68 0 rfl rfl
theorem dX7_record_69 : decode cX7_record 69 = .ok (.iastore, 1) := dqr0 dqK_79 dqw_cX7_record_68 1 rfl rfl
theorem dX7_record_70 : decode cX7_record 70 = .ok (.aload_n 0, 1) := dqr0 dqK_42 dqw_cX7_record_68 2 rfl rfl
theorem dX7_record_71 : decode cX7_record 71 = .ok (.getfield 135, 3) := dqr2 dqK_180 dqw_cX7_record_68 3 rfl rfl rfl rfl rfl
theorem dX7_record_74 : decode cX7_record 74 = .ok (.aload_n 0, 1) := dqr0 dqK_42 dqw_cX7_record_68 6 rfl rfl
theorem dX7_record_75 : decode cX7_record 75 = .ok (.getfield 352, 3) := dqr2 dqK_180 dqw_cX7_record_68 7 rfl rfl rfl rfl rfl
theorem dX7_record_78 : decode cX7_record 78 = .ok (.iload_n 3, 1) := dqr0 dqK_29 dqw_cX7_record_68 10 rfl rfl
theorem dX7_record_79 : decode cX7_record 79 = .ok (.iastore, 1) := dqr0 dqK_79 dqw_cX7_record_68 11 rfl rfl
theorem dX7_record_80 : decode cX7_record 80 = .ok (.aload_n 0, 1) := dqr0 dqK_42 dqw_cX7_record_68 12 rfl rfl
theorem dX7_record_81 : decode cX7_record 81 = .ok (.getfield 138, 3) := dqr2 dqK_180 dqw_cX7_record_68 13 rfl rfl rfl rfl rfl
theorem dX7_record_84 : decode cX7_record 84 = .ok (.aload_n 0, 1) := dqr0 dqK_42 dqw_cX7_record_68 16 rfl rfl
theorem dX7_record_85 : decode cX7_record 85 = .ok (.getfield 352, 3) := dqr2 dqK_180 dqw_cX7_record_68 17 rfl rfl rfl rfl rfl
theorem dX7_record_88 : decode cX7_record 88 = .ok (.aload_n 0, 1) := dqr0 dqK_42 dqw_cX7_record_68 20 rfl rfl
theorem dX7_record_89 : decode cX7_record 89 = .ok (.getfield 339, 3) := dqr2 dqK_180 dqw_cX7_record_68 21 rfl rfl rfl rfl rfl
theorem dqw_cX7_record_92 : dqLF cX7_record 92 [79, 3, 54, 4, 21, 4, 42, 180, 1, 83, 162, 0, 31, 42, 180, 0, 141, 16, 24, 42, 180, 1, 96, 104] := by decide +kernel
theorem dX7_record_92 : decode cX7_record 92 = .ok (.iastore, 1) := dqr0 dqK_79 dqw_cX7_record_92 0 rfl rfl
theorem dX7_record_93 : decode cX7_record 93 = .ok (.iconst 0, 1) := dqr0 dqK_3 dqw_cX7_record_92 1 rfl rfl
theorem dX7_record_94 : decode cX7_record 94 = .ok (.istore 4, 2) := dqr1 dqK_54 dqw_cX7_record_92 2 rfl rfl rfl
theorem dX7_record_96 : decode cX7_record 96 = .ok (.iload 4, 2) := dqr1 dqK_21 dqw_cX7_record_92 4 rfl rfl rfl
theorem dX7_record_98 : decode cX7_record 98 = .ok (.aload_n 0, 1) := dqr0 dqK_42 dqw_cX7_record_92 6 rfl rfl
theorem dX7_record_99 : decode cX7_record 99 = .ok (.getfield 339, 3) := dqr2 dqK_180 dqw_cX7_record_92 7 rfl rfl rfl rfl rfl
theorem dX7_record_102 : decode cX7_record 102 = .ok (.if_icmp .ge 31, 3) := dqrs2 dqK_162 dqw_cX7_record_92 10 rfl rfl rfl rfl (by decide)
theorem dX7_record_105 : decode cX7_record 105 = .ok (.aload_n 0, 1) := dqr0 dqK_42 dqw_cX7_record_92 13 rfl rfl
theorem dX7_record_106 : decode cX7_record 106 = .ok (.getfield 141, 3) := dqr2 dqK_180 dqw_cX7_record_92 14 rfl rfl rfl rfl rfl
theorem dX7_record_109 : decode cX7_record 109 = .ok (.bipush 24, 2) := dqrs1 dqK_16 dqw_cX7_record_92 17 rfl rfl rfl (by decide)
theorem dX7_record_111 : decode cX7_record 111 = .ok (.aload_n 0, 1) := dqr0 dqK_42 dqw_cX7_record_92 19 rfl rfl
theorem dX7_record_112 : decode cX7_record 112 = .ok (.getfield 352, 3) := dqr2 dqK_180 dqw_cX7_record_92 20 rfl rfl rfl rfl rfl
theorem dX7_record_115 : decode cX7_record 115 = .ok (.imul, 1) := dqr0 dqK_104 dqw_cX7_record_92 23 rfl rfl
theorem dqw_cX7_record_116 : dqLF cX7_record 116 [21, 4, 96, 42, 180, 0, 101, 21, 4, 46, 79, 132, 4, 1, 167, 255, 222, 42, 89, 180, 1, 96, 4, 96] := by decide +kernel
theorem dX7_record_116 : decode cX7_record 116 = .ok (.iload 4, 2) := dqr1 dqK_21 dqw_cX7_record_116 0 rfl rfl rfl
theorem dX7_record_118 : decode cX7_record 118 = .ok (.iadd, 1) := dqr0 dqK_96 dqw_cX7_record_116 2 rfl rfl
theorem dX7_record_119 : decode cX7_record 119 = .ok (.aload_n 0, 1) := dqr0 dqK_42 dqw_cX7_record_116 3 rfl rfl
theorem dX7_record_120 : decode cX7_record 120 = .ok (.getfield 101, 3) := dqr2 dqK_180 dqw_cX7_record_116 4 rfl rfl rfl rfl rfl
theorem dX7_record_123 : decode cX7_record 123 = .ok (.iload 4, 2) := dqr1 dqK_21 dqw_cX7_record_116 7 rfl rfl rfl
theorem dX7_record_125 : decode cX7_record 125 = .ok (.iaload, 1) := dqr0 dqK_46 dqw_cX7_record_116 9 rfl rfl
theorem dX7_record_126 : decode cX7_record 126 = .ok (.iastore, 1) := dqr0 dqK_79 dqw_cX7_record_116 10 rfl rfl
theorem dX7_record_127 : decode cX7_record 127 = .ok (.iinc 4 1, 3) := dqri dqK_132 dqw_cX7_record_116 11 rfl rfl rfl rfl (by decide)
theorem dX7_record_130 : decode cX7_record 130 = .ok (.goto (-34), 3) := dqrs2 dqK_167 dqw_cX7_record_116 14 rfl rfl rfl rfl (by decide)
theorem dX7_record_133 : decode cX7_record 133 = .ok (.aload_n 0, 1) := dqr0 dqK_42 dqw_cX7_record_116 17 rfl rfl
theorem dX7_record_134 : decode cX7_record 134 = .ok (.dup, 1) := dqr0 dqK_89 dqw_cX7_record_116 18 rfl rfl
theorem dX7_record_135 : decode cX7_record 135 = .ok (.getfield 352, 3) := dqr2 dqK_180 dqw_cX7_record_116 19 rfl rfl rfl rfl rfl
theorem dX7_record_138 : decode cX7_record 138 = .ok (.iconst 1, 1) := dqr0 dqK_4 dqw_cX7_record_116 22 rfl rfl
theorem dX7_record_139 : decode cX7_record 139 = .ok (.iadd, 1) := dqr0 dqK_96 dqw_cX7_record_116 23 rfl rfl
theorem dqw_cX7_record_140 : dqLF cX7_record 140 [181, 1, 96, 42, 180, 1, 96, 4, 100, 172] := by decide +kernel
theorem dX7_record_140 : decode cX7_record 140 = .ok (.putfield 352, 3) := dqr2 dqK_181 dqw_cX7_record_140 0 rfl rfl rfl rfl rfl
theorem dX7_record_143 : decode cX7_record 143 = .ok (.aload_n 0, 1) := dqr0 dqK_42 dqw_cX7_record_140 3 rfl rfl
theorem dX7_record_144 : decode cX7_record 144 = .ok (.getfield 352, 3) := dqr2 dqK_180 dqw_cX7_record_140 4 rfl rfl rfl rfl rfl
theorem dX7_record_147 : decode cX7_record 147 = .ok (.iconst 1, 1) := dqr0 dqK_4 dqw_cX7_record_140 7 rfl rfl
theorem dX7_record_148 : decode cX7_record 148 = .ok (.isub, 1) := dqr0 dqK_100 dqw_cX7_record_140 8 rfl rfl
theorem dX7_record_149 : decode cX7_record 149 = .ok (.ireturn, 1) := dqr0 dqK_172 dqw_cX7_record_140 9 rfl rfl
theorem dqw_cX7_isRecording_0 : dqLF cX7_isRecording 0 [27, 155, 0, 15, 27, 42, 180, 1, 96, 162, 0, 7, 4, 167, 0, 4, 3, 172] := by decide +kernel
theorem dX7_isRecording_0 : decode cX7_isRecording 0 = .ok (.iload_n 1, 1) := dqr0 dqK_27 dqw_cX7_isRecording_0 0 rfl rfl
theorem dX7_isRecording_1 : decode cX7_isRecording 1 = .ok (.ifCond .lt 15, 3) := dqrs2 dqK_155 dqw_cX7_isRecording_0 1 rfl rfl rfl rfl (by decide)
theorem dX7_isRecording_4 : decode cX7_isRecording 4 = .ok (.iload_n 1, 1) := dqr0 dqK_27 dqw_cX7_isRecording_0 4 rfl rfl
theorem dX7_isRecording_5 : decode cX7_isRecording 5 = .ok (.aload_n 0, 1) := dqr0 dqK_42 dqw_cX7_isRecording_0 5 rfl rfl
theorem dX7_isRecording_6 : decode cX7_isRecording 6 = .ok (.getfield 352, 3) := dqr2 dqK_180 dqw_cX7_isRecording_0 6 rfl rfl rfl rfl rfl
theorem dX7_isRecording_9 : decode cX7_isRecording 9 = .ok (.if_icmp .ge 7, 3) := dqrs2 dqK_162 dqw_cX7_isRecording_0 9 rfl rfl rfl rfl (by decide)
theorem dX7_isRecording_12 : decode cX7_isRecording 12 = .ok (.iconst 1, 1) := dqr0 dqK_4 dqw_cX7_isRecording_0 12 rfl rfl
theorem dX7_isRecording_13 : decode cX7_isRecording 13 = .ok (.goto 4, 3) := dqrs2 dqK_167 dqw_cX7_isRecording_0 13 rfl rfl rfl rfl (by decide)
theorem dX7_isRecording_16 : decode cX7_isRecording 16 = .ok (.iconst 0, 1) := dqr0 dqK_3 dqw_cX7_isRecording_0 16 rfl rfl
theorem dX7_isRecording_17 : decode cX7_isRecording 17 = .ok (.ireturn, 1) := dqr0 dqK_172 dqw_cX7_isRecording_0 17 rfl rfl
theorem dqw_cX7_plays_0 : dqLF cX7_plays 0 [42, 42, 180, 0, 129, 27, 46, 42, 180, 0, 135, 27, 46, 42, 28, 182, 1, 73, 182, 1, 13, 42, 42] := by decide +kernel
theorem dX7_plays_0 : decode cX7_plays 0 = .ok (.aload_n 0, 1) := dqr0 dqK_42 dqw_cX7_plays_0 0 rfl rfl
theorem dX7_plays_1 : decode cX7_plays 1 = .ok (.aload_n 0, 1) := dqr0 dqK_42 dqw_cX7_plays_0 1 rfl rfl
theorem dX7_plays_2 : decode cX7_plays 2 = .ok (.getfield 129, 3) := dqr2 dqK_180 dqw_cX7_plays_0 2 rfl rfl rfl rfl rfl
theorem dX7_plays_5 : decode cX7_plays 5 = .ok (.iload_n 1, 1) := dqr0 dqK_27 dqw_cX7_plays_0 5 rfl rfl
theorem dX7_plays_6 : decode cX7_plays 6 = .ok (.iaload, 1) := dqr0 dqK_46 dqw_cX7_plays_0 6 rfl rfl
theorem dX7_plays_7 : decode cX7_plays 7 = .ok (.aload_n 0, 1) := dqr0 dqK_42 dqw_cX7_plays_0 7 rfl rfl
theorem dX7_plays_8 : decode cX7_plays 8 = .ok (.getfield 135, 3) := dqr2 dqK_180 dqw_cX7_plays_0 8 rfl rfl rfl rfl rfl
theorem dX7_plays_11 : decode cX7_plays 11 = .ok (.iload_n 1, 1) := dqr0 dqK_27 dqw_cX7_plays_0 11 rfl rfl
theorem dX7_plays_12 : decode cX7_plays 12 = .ok (.iaload, 1) := dqr0 dqK_46 dqw_cX7_plays_0 12 rfl rfl
theorem dX7_plays_13 : decode cX7_plays 13 = .ok (.aload_n 0, 1) := dqr0 dqK_42 dqw_cX7_plays_0 13 rfl rfl
theorem dX7_plays_14 : decode cX7_plays 14 = .ok (.iload_n 2, 1) := dqr0 dqK_28 dqw_cX7_plays_0 14 rfl rfl
theorem dX7_plays_15 : decode cX7_plays 15 = .ok (.invokevirtual 329, 3) := dqr2 dqK_182 dqw_cX7_plays_0 15 rfl rfl rfl rfl rfl
theorem dX7_plays_18 : decode cX7_plays 18 = .ok (.invokevirtual 269, 3) := dqr2 dqK_182 dqw_cX7_plays_0 18 rfl rfl rfl rfl rfl
theorem dX7_plays_21 : decode cX7_plays 21 = .ok (.aload_n 0, 1) := dqr0 dqK_42 dqw_cX7_plays_0 21 rfl rfl
theorem dX7_plays_22 : decode cX7_plays 22 = .ok (.aload_n 0, 1) := dqr0 dqK_42 dqw_cX7_plays_0 22 rfl rfl
theorem dqw_cX7_plays_23 : dqLF cX7_plays 23 [180, 0, 141, 16, 24, 27, 104, 42, 180, 0, 138, 27, 46, 182, 1, 86, 177] := by decide +kernel
theorem dX7_plays_23 : decode cX7_plays 23 = .ok (.getfield 141, 3) := dqr2 dqK_180 dqw_cX7_plays_23 0 rfl rfl rfl rfl rfl
theorem dX7_plays_26 : decode cX7_plays 26 = .ok (.bipush 24, 2) := dqrs1 dqK_16 dqw_cX7_plays_23 3 rfl rfl rfl (by decide)
theorem dX7_plays_28 : decode cX7_plays 28 = .ok (.iload_n 1, 1) := dqr0 dqK_27 dqw_cX7_plays_23 5 rfl rfl
theorem dX7_plays_29 : decode cX7_plays 29 = .ok (.imul, 1) := dqr0 dqK_104 dqw_cX7_plays_23 6 rfl rfl
theorem dX7_plays_30 : decode cX7_plays 30 = .ok (.aload_n 0, 1) := dqr0 dqK_42 dqw_cX7_plays_23 7 rfl rfl
theorem dX7_plays_31 : decode cX7_plays 31 = .ok (.getfield 138, 3) := dqr2 dqK_180 dqw_cX7_plays_23 8 rfl rfl rfl rfl rfl
theorem dX7_plays_34 : decode cX7_plays 34 = .ok (.iload_n 1, 1) := dqr0 dqK_27 dqw_cX7_plays_23 11 rfl rfl
theorem dX7_plays_35 : decode cX7_plays 35 = .ok (.iaload, 1) := dqr0 dqK_46 dqw_cX7_plays_23 12 rfl rfl
theorem dX7_plays_36 : decode cX7_plays 36 = .ok (.invokevirtual 342, 3) := dqr2 dqK_182 dqw_cX7_plays_23 13 rfl rfl rfl rfl rfl
theorem dX7_plays_39 : decode cX7_plays 39 = .ok (.return_, 1) := dqr0 dqK_177 dqw_cX7_plays_23 16 rfl rfl
theorem dqw_cX7_heard_0 : dqLF cX7_heard 0 [42, 27, 182, 1, 99, 153, 0, 23, 42, 28, 182, 1, 70, 153, 0, 15, 29, 133, 9, 20, 0, 235] := by decide +kernel
theorem dX7_heard_0 : decode cX7_heard 0 = .ok (.aload_n 0, 1) := dqr0 dqK_42 dqw_cX7_heard_0 0 rfl rfl
theorem dX7_heard_1 : decode cX7_heard 1 = .ok (.iload_n 1, 1) := dqr0 dqK_27 dqw_cX7_heard_0 1 rfl rfl
theorem dX7_heard_2 : decode cX7_heard 2 = .ok (.invokevirtual 355, 3) := dqr2 dqK_182 dqw_cX7_heard_0 2 rfl rfl rfl rfl rfl
theorem dX7_heard_5 : decode cX7_heard 5 = .ok (.ifCond .eq 23, 3) := dqrs2 dqK_153 dqw_cX7_heard_0 5 rfl rfl rfl rfl (by decide)
theorem dX7_heard_8 : decode cX7_heard 8 = .ok (.aload_n 0, 1) := dqr0 dqK_42 dqw_cX7_heard_0 8 rfl rfl
theorem dX7_heard_9 : decode cX7_heard 9 = .ok (.iload_n 2, 1) := dqr0 dqK_28 dqw_cX7_heard_0 9 rfl rfl
theorem dX7_heard_10 : decode cX7_heard 10 = .ok (.invokevirtual 326, 3) := dqr2 dqK_182 dqw_cX7_heard_0 10 rfl rfl rfl rfl rfl
theorem dX7_heard_13 : decode cX7_heard 13 = .ok (.ifCond .eq 15, 3) := dqrs2 dqK_153 dqw_cX7_heard_0 13 rfl rfl rfl rfl (by decide)
theorem dX7_heard_16 : decode cX7_heard 16 = .ok (.iload_n 3, 1) := dqr0 dqK_29 dqw_cX7_heard_0 16 rfl rfl
theorem dX7_heard_17 : decode cX7_heard 17 = .ok (.i2l, 1) := dqr0 dqK_133 dqw_cX7_heard_0 17 rfl rfl
theorem dX7_heard_18 : decode cX7_heard 18 = .ok (.lconst 0, 1) := dqr0 dqK_9 dqw_cX7_heard_0 18 rfl rfl
theorem dX7_heard_19 : decode cX7_heard 19 = .ok (.ldc2_w 235, 3) := dqr2 dqK_20 dqw_cX7_heard_0 19 rfl rfl rfl rfl rfl
theorem dqw_cX7_heard_22 : dqLF cX7_heard 22 [184, 0, 152, 154, 0, 5, 2, 172, 42, 27, 28, 182, 1, 102, 3, 54, 4, 3, 54, 5, 3, 54, 6] := by decide +kernel
theorem dX7_heard_22 : decode cX7_heard 22 = .ok (.invokestatic 152, 3) := dqr2 dqK_184 dqw_cX7_heard_22 0 rfl rfl rfl rfl rfl
theorem dX7_heard_25 : decode cX7_heard 25 = .ok (.ifCond .ne 5, 3) := dqrs2 dqK_154 dqw_cX7_heard_22 3 rfl rfl rfl rfl (by decide)
theorem dX7_heard_28 : decode cX7_heard 28 = .ok (.iconst (-1), 1) := dqr0 dqK_2 dqw_cX7_heard_22 6 rfl rfl
theorem dX7_heard_29 : decode cX7_heard 29 = .ok (.ireturn, 1) := dqr0 dqK_172 dqw_cX7_heard_22 7 rfl rfl
theorem dX7_heard_30 : decode cX7_heard 30 = .ok (.aload_n 0, 1) := dqr0 dqK_42 dqw_cX7_heard_22 8 rfl rfl
theorem dX7_heard_31 : decode cX7_heard 31 = .ok (.iload_n 1, 1) := dqr0 dqK_27 dqw_cX7_heard_22 9 rfl rfl
theorem dX7_heard_32 : decode cX7_heard 32 = .ok (.iload_n 2, 1) := dqr0 dqK_28 dqw_cX7_heard_22 10 rfl rfl
theorem dX7_heard_33 : decode cX7_heard 33 = .ok (.invokevirtual 358, 3) := dqr2 dqK_182 dqw_cX7_heard_22 11 rfl rfl rfl rfl rfl
theorem dX7_heard_36 : decode cX7_heard 36 = .ok (.iconst 0, 1) := dqr0 dqK_3 dqw_cX7_heard_22 14 rfl rfl
theorem dX7_heard_37 : decode cX7_heard 37 = .ok (.istore 4, 2) := dqr1 dqK_54 dqw_cX7_heard_22 15 rfl rfl rfl
theorem dX7_heard_39 : decode cX7_heard 39 = .ok (.iconst 0, 1) := dqr0 dqK_3 dqw_cX7_heard_22 17 rfl rfl
theorem dX7_heard_40 : decode cX7_heard 40 = .ok (.istore 5, 2) := dqr1 dqK_54 dqw_cX7_heard_22 18 rfl rfl rfl
theorem dX7_heard_42 : decode cX7_heard 42 = .ok (.iconst 0, 1) := dqr0 dqK_3 dqw_cX7_heard_22 20 rfl rfl
theorem dX7_heard_43 : decode cX7_heard 43 = .ok (.istore 6, 2) := dqr1 dqK_54 dqw_cX7_heard_22 21 rfl rfl rfl
theorem dqw_cX7_heard_45 : dqLF cX7_heard 45 [21, 6, 42, 180, 1, 26, 162, 0, 68, 21, 5, 42, 180, 0, 104, 21, 6, 46, 16, 40, 160, 0, 7, 4] := by decide +kernel
theorem dX7_heard_45 : decode cX7_heard 45 = .ok (.iload 6, 2) := dqr1 dqK_21 dqw_cX7_heard_45 0 rfl rfl rfl
theorem dX7_heard_47 : decode cX7_heard 47 = .ok (.aload_n 0, 1) := dqr0 dqK_42 dqw_cX7_heard_45 2 rfl rfl
theorem dX7_heard_48 : decode cX7_heard 48 = .ok (.getfield 282, 3) := dqr2 dqK_180 dqw_cX7_heard_45 3 rfl rfl rfl rfl rfl
theorem dX7_heard_51 : decode cX7_heard 51 = .ok (.if_icmp .ge 68, 3) := dqrs2 dqK_162 dqw_cX7_heard_45 6 rfl rfl rfl rfl (by decide)
theorem dX7_heard_54 : decode cX7_heard 54 = .ok (.iload 5, 2) := dqr1 dqK_21 dqw_cX7_heard_45 9 rfl rfl rfl
theorem dX7_heard_56 : decode cX7_heard 56 = .ok (.aload_n 0, 1) := dqr0 dqK_42 dqw_cX7_heard_45 11 rfl rfl
theorem dX7_heard_57 : decode cX7_heard 57 = .ok (.getfield 104, 3) := dqr2 dqK_180 dqw_cX7_heard_45 12 rfl rfl rfl rfl rfl
theorem dX7_heard_60 : decode cX7_heard 60 = .ok (.iload 6, 2) := dqr1 dqK_21 dqw_cX7_heard_45 15 rfl rfl rfl
theorem dX7_heard_62 : decode cX7_heard 62 = .ok (.iaload, 1) := dqr0 dqK_46 dqw_cX7_heard_45 17 rfl rfl
theorem dX7_heard_63 : decode cX7_heard 63 = .ok (.bipush 40, 2) := dqrs1 dqK_16 dqw_cX7_heard_45 18 rfl rfl rfl (by decide)
theorem dX7_heard_65 : decode cX7_heard 65 = .ok (.if_icmp .ne 7, 3) := dqrs2 dqK_160 dqw_cX7_heard_45 20 rfl rfl rfl rfl (by decide)
theorem dX7_heard_68 : decode cX7_heard 68 = .ok (.iconst 1, 1) := dqr0 dqK_4 dqw_cX7_heard_45 23 rfl rfl
theorem dqw_cX7_heard_69 : dqLF cX7_heard 69 [167, 0, 4, 3, 96, 54, 5, 21, 4, 42, 180, 0, 104, 21, 6, 46, 16, 40, 159, 0, 22, 42] := by decide +kernel
theorem dX7_heard_69 : decode cX7_heard 69 = .ok (.goto 4, 3) := dqrs2 dqK_167 dqw_cX7_heard_69 0 rfl rfl rfl rfl (by decide)
theorem dX7_heard_72 : decode cX7_heard 72 = .ok (.iconst 0, 1) := dqr0 dqK_3 dqw_cX7_heard_69 3 rfl rfl
theorem dX7_heard_73 : decode cX7_heard 73 = .ok (.iadd, 1) := dqr0 dqK_96 dqw_cX7_heard_69 4 rfl rfl
theorem dX7_heard_74 : decode cX7_heard 74 = .ok (.istore 5, 2) := dqr1 dqK_54 dqw_cX7_heard_69 5 rfl rfl rfl
theorem dX7_heard_76 : decode cX7_heard 76 = .ok (.iload 4, 2) := dqr1 dqK_21 dqw_cX7_heard_69 7 rfl rfl rfl
theorem dX7_heard_78 : decode cX7_heard 78 = .ok (.aload_n 0, 1) := dqr0 dqK_42 dqw_cX7_heard_69 9 rfl rfl
theorem dX7_heard_79 : decode cX7_heard 79 = .ok (.getfield 104, 3) := dqr2 dqK_180 dqw_cX7_heard_69 10 rfl rfl rfl rfl rfl
theorem dX7_heard_82 : decode cX7_heard 82 = .ok (.iload 6, 2) := dqr1 dqK_21 dqw_cX7_heard_69 13 rfl rfl rfl
theorem dX7_heard_84 : decode cX7_heard 84 = .ok (.iaload, 1) := dqr0 dqK_46 dqw_cX7_heard_69 15 rfl rfl
theorem dX7_heard_85 : decode cX7_heard 85 = .ok (.bipush 40, 2) := dqrs1 dqK_16 dqw_cX7_heard_69 16 rfl rfl rfl (by decide)
theorem dX7_heard_87 : decode cX7_heard 87 = .ok (.if_icmp .eq 22, 3) := dqrs2 dqK_159 dqw_cX7_heard_69 18 rfl rfl rfl rfl (by decide)
theorem dX7_heard_90 : decode cX7_heard 90 = .ok (.aload_n 0, 1) := dqr0 dqK_42 dqw_cX7_heard_69 21 rfl rfl
theorem dqw_cX7_heard_91 : dqLF cX7_heard 91 [180, 0, 126, 42, 180, 0, 104, 21, 6, 46, 51, 154, 0, 7, 4, 167, 0, 4, 3, 96, 54, 4] := by decide +kernel
theorem dX7_heard_91 : decode cX7_heard 91 = .ok (.getfield 126, 3) := dqr2 dqK_180 dqw_cX7_heard_91 0 rfl rfl rfl rfl rfl
theorem dX7_heard_94 : decode cX7_heard 94 = .ok (.aload_n 0, 1) := dqr0 dqK_42 dqw_cX7_heard_91 3 rfl rfl
theorem dX7_heard_95 : decode cX7_heard 95 = .ok (.getfield 104, 3) := dqr2 dqK_180 dqw_cX7_heard_91 4 rfl rfl rfl rfl rfl
theorem dX7_heard_98 : decode cX7_heard 98 = .ok (.iload 6, 2) := dqr1 dqK_21 dqw_cX7_heard_91 7 rfl rfl rfl
theorem dX7_heard_100 : decode cX7_heard 100 = .ok (.iaload, 1) := dqr0 dqK_46 dqw_cX7_heard_91 9 rfl rfl
theorem dX7_heard_101 : decode cX7_heard 101 = .ok (.baload, 1) := dqr0 dqK_51 dqw_cX7_heard_91 10 rfl rfl
theorem dX7_heard_102 : decode cX7_heard 102 = .ok (.ifCond .ne 7, 3) := dqrs2 dqK_154 dqw_cX7_heard_91 11 rfl rfl rfl rfl (by decide)
theorem dX7_heard_105 : decode cX7_heard 105 = .ok (.iconst 1, 1) := dqr0 dqK_4 dqw_cX7_heard_91 14 rfl rfl
theorem dX7_heard_106 : decode cX7_heard 106 = .ok (.goto 4, 3) := dqrs2 dqK_167 dqw_cX7_heard_91 15 rfl rfl rfl rfl (by decide)
theorem dX7_heard_109 : decode cX7_heard 109 = .ok (.iconst 0, 1) := dqr0 dqK_3 dqw_cX7_heard_91 18 rfl rfl
theorem dX7_heard_110 : decode cX7_heard 110 = .ok (.iadd, 1) := dqr0 dqK_96 dqw_cX7_heard_91 19 rfl rfl
theorem dX7_heard_111 : decode cX7_heard 111 = .ok (.istore 4, 2) := dqr1 dqK_54 dqw_cX7_heard_91 20 rfl rfl rfl
theorem dqw_cX7_heard_113 : dqLF cX7_heard 113 [132, 6, 1, 167, 255, 185, 29, 154, 0, 24, 42, 42, 180, 0, 132, 27, 46, 182, 1, 90, 158, 0, 7, 4] := by decide +kernel
theorem dX7_heard_113 : decode cX7_heard 113 = .ok (.iinc 6 1, 3) := dqri dqK_132 dqw_cX7_heard_113 0 rfl rfl rfl rfl (by decide)
theorem dX7_heard_116 : decode cX7_heard 116 = .ok (.goto (-71), 3) := dqrs2 dqK_167 dqw_cX7_heard_113 3 rfl rfl rfl rfl (by decide)
theorem dX7_heard_119 : decode cX7_heard 119 = .ok (.iload_n 3, 1) := dqr0 dqK_29 dqw_cX7_heard_113 6 rfl rfl
theorem dX7_heard_120 : decode cX7_heard 120 = .ok (.ifCond .ne 24, 3) := dqrs2 dqK_154 dqw_cX7_heard_113 7 rfl rfl rfl rfl (by decide)
theorem dX7_heard_123 : decode cX7_heard 123 = .ok (.aload_n 0, 1) := dqr0 dqK_42 dqw_cX7_heard_113 10 rfl rfl
theorem dX7_heard_124 : decode cX7_heard 124 = .ok (.aload_n 0, 1) := dqr0 dqK_42 dqw_cX7_heard_113 11 rfl rfl
theorem dX7_heard_125 : decode cX7_heard 125 = .ok (.getfield 132, 3) := dqr2 dqK_180 dqw_cX7_heard_113 12 rfl rfl rfl rfl rfl
theorem dX7_heard_128 : decode cX7_heard 128 = .ok (.iload_n 1, 1) := dqr0 dqK_27 dqw_cX7_heard_113 15 rfl rfl
theorem dX7_heard_129 : decode cX7_heard 129 = .ok (.iaload, 1) := dqr0 dqK_46 dqw_cX7_heard_113 16 rfl rfl
theorem dX7_heard_130 : decode cX7_heard 130 = .ok (.invokevirtual 346, 3) := dqr2 dqK_182 dqw_cX7_heard_113 17 rfl rfl rfl rfl rfl
theorem dX7_heard_133 : decode cX7_heard 133 = .ok (.ifCond .le 7, 3) := dqrs2 dqK_158 dqw_cX7_heard_113 20 rfl rfl rfl rfl (by decide)
theorem dX7_heard_136 : decode cX7_heard 136 = .ok (.iconst 1, 1) := dqr0 dqK_4 dqw_cX7_heard_113 23 rfl rfl
theorem dqw_cX7_heard_137 : dqLF cX7_heard 137 [167, 0, 31, 3, 167, 0, 27, 29, 4, 160, 0, 8, 21, 4, 167, 0, 17, 29, 5, 160, 0, 8, 21, 5] := by decide +kernel
theorem dX7_heard_137 : decode cX7_heard 137 = .ok (.goto 31, 3) := dqrs2 dqK_167 dqw_cX7_heard_137 0 rfl rfl rfl rfl (by decide)
theorem dX7_heard_140 : decode cX7_heard 140 = .ok (.iconst 0, 1) := dqr0 dqK_3 dqw_cX7_heard_137 3 rfl rfl
theorem dX7_heard_141 : decode cX7_heard 141 = .ok (.goto 27, 3) := dqrs2 dqK_167 dqw_cX7_heard_137 4 rfl rfl rfl rfl (by decide)
theorem dX7_heard_144 : decode cX7_heard 144 = .ok (.iload_n 3, 1) := dqr0 dqK_29 dqw_cX7_heard_137 7 rfl rfl
theorem dX7_heard_145 : decode cX7_heard 145 = .ok (.iconst 1, 1) := dqr0 dqK_4 dqw_cX7_heard_137 8 rfl rfl
theorem dX7_heard_146 : decode cX7_heard 146 = .ok (.if_icmp .ne 8, 3) := dqrs2 dqK_160 dqw_cX7_heard_137 9 rfl rfl rfl rfl (by decide)
theorem dX7_heard_149 : decode cX7_heard 149 = .ok (.iload 4, 2) := dqr1 dqK_21 dqw_cX7_heard_137 12 rfl rfl rfl
theorem dX7_heard_151 : decode cX7_heard 151 = .ok (.goto 17, 3) := dqrs2 dqK_167 dqw_cX7_heard_137 14 rfl rfl rfl rfl (by decide)
theorem dX7_heard_154 : decode cX7_heard 154 = .ok (.iload_n 3, 1) := dqr0 dqK_29 dqw_cX7_heard_137 17 rfl rfl
theorem dX7_heard_155 : decode cX7_heard 155 = .ok (.iconst 2, 1) := dqr0 dqK_5 dqw_cX7_heard_137 18 rfl rfl
theorem dX7_heard_156 : decode cX7_heard 156 = .ok (.if_icmp .ne 8, 3) := dqrs2 dqK_160 dqw_cX7_heard_137 19 rfl rfl rfl rfl (by decide)
theorem dX7_heard_159 : decode cX7_heard 159 = .ok (.iload 5, 2) := dqr1 dqK_21 dqw_cX7_heard_137 22 rfl rfl rfl
theorem dqw_cX7_heard_161 : dqLF cX7_heard 161 [167, 0, 7, 42, 180, 1, 26, 172] := by decide +kernel
theorem dX7_heard_161 : decode cX7_heard 161 = .ok (.goto 7, 3) := dqrs2 dqK_167 dqw_cX7_heard_161 0 rfl rfl rfl rfl (by decide)
theorem dX7_heard_164 : decode cX7_heard 164 = .ok (.aload_n 0, 1) := dqr0 dqK_42 dqw_cX7_heard_161 3 rfl rfl
theorem dX7_heard_165 : decode cX7_heard 165 = .ok (.getfield 282, 3) := dqr2 dqK_180 dqw_cX7_heard_161 4 rfl rfl rfl rfl rfl
theorem dX7_heard_168 : decode cX7_heard 168 = .ok (.ireturn, 1) := dqr0 dqK_172 dqw_cX7_heard_161 7 rfl rfl
theorem dqw_cX7_filled_0 : dqLF cX7_filled 0 [42, 27, 182, 1, 99, 153, 0, 45, 42, 28, 182, 1, 70, 153, 0, 37, 29, 133, 9, 42, 180, 0, 138, 27] := by decide +kernel
theorem dX7_filled_0 : decode cX7_filled 0 = .ok (.aload_n 0, 1) := dqr0 dqK_42 dqw_cX7_filled_0 0 rfl rfl
theorem dX7_filled_1 : decode cX7_filled 1 = .ok (.iload_n 1, 1) := dqr0 dqK_27 dqw_cX7_filled_0 1 rfl rfl
theorem dX7_filled_2 : decode cX7_filled 2 = .ok (.invokevirtual 355, 3) := dqr2 dqK_182 dqw_cX7_filled_0 2 rfl rfl rfl rfl rfl
theorem dX7_filled_5 : decode cX7_filled 5 = .ok (.ifCond .eq 45, 3) := dqrs2 dqK_153 dqw_cX7_filled_0 5 rfl rfl rfl rfl (by decide)
theorem dX7_filled_8 : decode cX7_filled 8 = .ok (.aload_n 0, 1) := dqr0 dqK_42 dqw_cX7_filled_0 8 rfl rfl
theorem dX7_filled_9 : decode cX7_filled 9 = .ok (.iload_n 2, 1) := dqr0 dqK_28 dqw_cX7_filled_0 9 rfl rfl
theorem dX7_filled_10 : decode cX7_filled 10 = .ok (.invokevirtual 326, 3) := dqr2 dqK_182 dqw_cX7_filled_0 10 rfl rfl rfl rfl rfl
theorem dX7_filled_13 : decode cX7_filled 13 = .ok (.ifCond .eq 37, 3) := dqrs2 dqK_153 dqw_cX7_filled_0 13 rfl rfl rfl rfl (by decide)
theorem dX7_filled_16 : decode cX7_filled 16 = .ok (.iload_n 3, 1) := dqr0 dqK_29 dqw_cX7_filled_0 16 rfl rfl
theorem dX7_filled_17 : decode cX7_filled 17 = .ok (.i2l, 1) := dqr0 dqK_133 dqw_cX7_filled_0 17 rfl rfl
theorem dX7_filled_18 : decode cX7_filled 18 = .ok (.lconst 0, 1) := dqr0 dqK_9 dqw_cX7_filled_0 18 rfl rfl
theorem dX7_filled_19 : decode cX7_filled 19 = .ok (.aload_n 0, 1) := dqr0 dqK_42 dqw_cX7_filled_0 19 rfl rfl
theorem dX7_filled_20 : decode cX7_filled 20 = .ok (.getfield 138, 3) := dqr2 dqK_180 dqw_cX7_filled_0 20 rfl rfl rfl rfl rfl
theorem dX7_filled_23 : decode cX7_filled 23 = .ok (.iload_n 1, 1) := dqr0 dqK_27 dqw_cX7_filled_0 23 rfl rfl
theorem dqw_cX7_filled_24 : dqLF cX7_filled 24 [46, 4, 100, 133, 184, 0, 152, 153, 0, 19, 42, 180, 0, 141, 16, 24, 27, 104, 29, 96, 46, 16, 40] := by decide +kernel
theorem dX7_filled_24 : decode cX7_filled 24 = .ok (.iaload, 1) := dqr0 dqK_46 dqw_cX7_filled_24 0 rfl rfl
theorem dX7_filled_25 : decode cX7_filled 25 = .ok (.iconst 1, 1) := dqr0 dqK_4 dqw_cX7_filled_24 1 rfl rfl
theorem dX7_filled_26 : decode cX7_filled 26 = .ok (.isub, 1) := dqr0 dqK_100 dqw_cX7_filled_24 2 rfl rfl
theorem dX7_filled_27 : decode cX7_filled 27 = .ok (.i2l, 1) := dqr0 dqK_133 dqw_cX7_filled_24 3 rfl rfl
theorem dX7_filled_28 : decode cX7_filled 28 = .ok (.invokestatic 152, 3) := dqr2 dqK_184 dqw_cX7_filled_24 4 rfl rfl rfl rfl rfl
theorem dX7_filled_31 : decode cX7_filled 31 = .ok (.ifCond .eq 19, 3) := dqrs2 dqK_153 dqw_cX7_filled_24 7 rfl rfl rfl rfl (by decide)
theorem dX7_filled_34 : decode cX7_filled 34 = .ok (.aload_n 0, 1) := dqr0 dqK_42 dqw_cX7_filled_24 10 rfl rfl
theorem dX7_filled_35 : decode cX7_filled 35 = .ok (.getfield 141, 3) := dqr2 dqK_180 dqw_cX7_filled_24 11 rfl rfl rfl rfl rfl
theorem dX7_filled_38 : decode cX7_filled 38 = .ok (.bipush 24, 2) := dqrs1 dqK_16 dqw_cX7_filled_24 14 rfl rfl rfl (by decide)
theorem dX7_filled_40 : decode cX7_filled 40 = .ok (.iload_n 1, 1) := dqr0 dqK_27 dqw_cX7_filled_24 16 rfl rfl
theorem dX7_filled_41 : decode cX7_filled 41 = .ok (.imul, 1) := dqr0 dqK_104 dqw_cX7_filled_24 17 rfl rfl
theorem dX7_filled_42 : decode cX7_filled 42 = .ok (.iload_n 3, 1) := dqr0 dqK_29 dqw_cX7_filled_24 18 rfl rfl
theorem dX7_filled_43 : decode cX7_filled 43 = .ok (.iadd, 1) := dqr0 dqK_96 dqw_cX7_filled_24 19 rfl rfl
theorem dX7_filled_44 : decode cX7_filled 44 = .ok (.iaload, 1) := dqr0 dqK_46 dqw_cX7_filled_24 20 rfl rfl
theorem dX7_filled_45 : decode cX7_filled 45 = .ok (.bipush 40, 2) := dqrs1 dqK_16 dqw_cX7_filled_24 21 rfl rfl rfl (by decide)
theorem dqw_cX7_filled_47 : dqLF cX7_filled 47 [159, 0, 5, 2, 172, 42, 27, 28, 182, 1, 102, 2, 54, 4, 3, 54, 5, 21, 5, 42, 180, 0, 147] := by decide +kernel
theorem dX7_filled_47 : decode cX7_filled 47 = .ok (.if_icmp .eq 5, 3) := dqrs2 dqK_159 dqw_cX7_filled_47 0 rfl rfl rfl rfl (by decide)
theorem dX7_filled_50 : decode cX7_filled 50 = .ok (.iconst (-1), 1) := dqr0 dqK_2 dqw_cX7_filled_47 3 rfl rfl
theorem dX7_filled_51 : decode cX7_filled 51 = .ok (.ireturn, 1) := dqr0 dqK_172 dqw_cX7_filled_47 4 rfl rfl
theorem dX7_filled_52 : decode cX7_filled 52 = .ok (.aload_n 0, 1) := dqr0 dqK_42 dqw_cX7_filled_47 5 rfl rfl
theorem dX7_filled_53 : decode cX7_filled 53 = .ok (.iload_n 1, 1) := dqr0 dqK_27 dqw_cX7_filled_47 6 rfl rfl
theorem dX7_filled_54 : decode cX7_filled 54 = .ok (.iload_n 2, 1) := dqr0 dqK_28 dqw_cX7_filled_47 7 rfl rfl
theorem dX7_filled_55 : decode cX7_filled 55 = .ok (.invokevirtual 358, 3) := dqr2 dqK_182 dqw_cX7_filled_47 8 rfl rfl rfl rfl rfl
theorem dX7_filled_58 : decode cX7_filled 58 = .ok (.iconst (-1), 1) := dqr0 dqK_2 dqw_cX7_filled_47 11 rfl rfl
theorem dX7_filled_59 : decode cX7_filled 59 = .ok (.istore 4, 2) := dqr1 dqK_54 dqw_cX7_filled_47 12 rfl rfl rfl
theorem dX7_filled_61 : decode cX7_filled 61 = .ok (.iconst 0, 1) := dqr0 dqK_3 dqw_cX7_filled_47 14 rfl rfl
theorem dX7_filled_62 : decode cX7_filled 62 = .ok (.istore 5, 2) := dqr1 dqK_54 dqw_cX7_filled_47 15 rfl rfl rfl
theorem dX7_filled_64 : decode cX7_filled 64 = .ok (.iload 5, 2) := dqr1 dqK_21 dqw_cX7_filled_47 17 rfl rfl rfl
theorem dX7_filled_66 : decode cX7_filled 66 = .ok (.aload_n 0, 1) := dqr0 dqK_42 dqw_cX7_filled_47 19 rfl rfl
theorem dX7_filled_67 : decode cX7_filled 67 = .ok (.getfield 147, 3) := dqr2 dqK_180 dqw_cX7_filled_47 20 rfl rfl rfl rfl rfl
theorem dqw_cX7_filled_70 : dqLF cX7_filled 70 [162, 0, 55, 42, 180, 0, 104, 29, 21, 5, 79, 42, 180, 0, 126, 21, 5, 51, 153, 0, 31, 42, 42] := by decide +kernel
theorem dX7_filled_70 : decode cX7_filled 70 = .ok (.if_icmp .ge 55, 3) := dqrs2 dqK_162 dqw_cX7_filled_70 0 rfl rfl rfl rfl (by decide)
theorem dX7_filled_73 : decode cX7_filled 73 = .ok (.aload_n 0, 1) := dqr0 dqK_42 dqw_cX7_filled_70 3 rfl rfl
theorem dX7_filled_74 : decode cX7_filled 74 = .ok (.getfield 104, 3) := dqr2 dqK_180 dqw_cX7_filled_70 4 rfl rfl rfl rfl rfl
theorem dX7_filled_77 : decode cX7_filled 77 = .ok (.iload_n 3, 1) := dqr0 dqK_29 dqw_cX7_filled_70 7 rfl rfl
theorem dX7_filled_78 : decode cX7_filled 78 = .ok (.iload 5, 2) := dqr1 dqK_21 dqw_cX7_filled_70 8 rfl rfl rfl
theorem dX7_filled_80 : decode cX7_filled 80 = .ok (.iastore, 1) := dqr0 dqK_79 dqw_cX7_filled_70 10 rfl rfl
theorem dX7_filled_81 : decode cX7_filled 81 = .ok (.aload_n 0, 1) := dqr0 dqK_42 dqw_cX7_filled_70 11 rfl rfl
theorem dX7_filled_82 : decode cX7_filled 82 = .ok (.getfield 126, 3) := dqr2 dqK_180 dqw_cX7_filled_70 12 rfl rfl rfl rfl rfl
theorem dX7_filled_85 : decode cX7_filled 85 = .ok (.iload 5, 2) := dqr1 dqK_21 dqw_cX7_filled_70 15 rfl rfl rfl
theorem dX7_filled_87 : decode cX7_filled 87 = .ok (.baload, 1) := dqr0 dqK_51 dqw_cX7_filled_70 17 rfl rfl
theorem dX7_filled_88 : decode cX7_filled 88 = .ok (.ifCond .eq 31, 3) := dqrs2 dqK_153 dqw_cX7_filled_70 18 rfl rfl rfl rfl (by decide)
theorem dX7_filled_91 : decode cX7_filled 91 = .ok (.aload_n 0, 1) := dqr0 dqK_42 dqw_cX7_filled_70 21 rfl rfl
theorem dX7_filled_92 : decode cX7_filled 92 = .ok (.aload_n 0, 1) := dqr0 dqK_42 dqw_cX7_filled_70 22 rfl rfl
theorem dqw_cX7_filled_93 : dqLF cX7_filled 93 [180, 0, 132, 27, 46, 182, 1, 90, 154, 0, 6, 167, 0, 15, 21, 4, 155, 0, 6, 16, 253, 172, 21, 5] := by decide +kernel
theorem dX7_filled_93 : decode cX7_filled 93 = .ok (.getfield 132, 3) := dqr2 dqK_180 dqw_cX7_filled_93 0 rfl rfl rfl rfl rfl
theorem dX7_filled_96 : decode cX7_filled 96 = .ok (.iload_n 1, 1) := dqr0 dqK_27 dqw_cX7_filled_93 3 rfl rfl
theorem dX7_filled_97 : decode cX7_filled 97 = .ok (.iaload, 1) := dqr0 dqK_46 dqw_cX7_filled_93 4 rfl rfl
theorem dX7_filled_98 : decode cX7_filled 98 = .ok (.invokevirtual 346, 3) := dqr2 dqK_182 dqw_cX7_filled_93 5 rfl rfl rfl rfl rfl
theorem dX7_filled_101 : decode cX7_filled 101 = .ok (.ifCond .ne 6, 3) := dqrs2 dqK_154 dqw_cX7_filled_93 8 rfl rfl rfl rfl (by decide)
theorem dX7_filled_104 : decode cX7_filled 104 = .ok (.goto 15, 3) := dqrs2 dqK_167 dqw_cX7_filled_93 11 rfl rfl rfl rfl (by decide)
theorem dX7_filled_107 : decode cX7_filled 107 = .ok (.iload 4, 2) := dqr1 dqK_21 dqw_cX7_filled_93 14 rfl rfl rfl
theorem dX7_filled_109 : decode cX7_filled 109 = .ok (.ifCond .lt 6, 3) := dqrs2 dqK_155 dqw_cX7_filled_93 16 rfl rfl rfl rfl (by decide)
theorem dX7_filled_112 : decode cX7_filled 112 = .ok (.bipush (-3), 2) := dqrs1 dqK_16 dqw_cX7_filled_93 19 rfl rfl rfl (by decide)
theorem dX7_filled_114 : decode cX7_filled 114 = .ok (.ireturn, 1) := dqr0 dqK_172 dqw_cX7_filled_93 21 rfl rfl
theorem dX7_filled_115 : decode cX7_filled 115 = .ok (.iload 5, 2) := dqr1 dqK_21 dqw_cX7_filled_93 22 rfl rfl rfl
theorem dqw_cX7_filled_117 : dqLF cX7_filled 117 [54, 4, 132, 5, 1, 167, 255, 198, 21, 4, 156, 0, 8, 16, 253, 167, 0, 5, 21, 4, 172] := by decide +kernel
theorem dX7_filled_117 : decode cX7_filled 117 = .ok (.istore 4, 2) := dqr1 dqK_54 dqw_cX7_filled_117 0 rfl rfl rfl
theorem dX7_filled_119 : decode cX7_filled 119 = .ok (.iinc 5 1, 3) := dqri dqK_132 dqw_cX7_filled_117 2 rfl rfl rfl rfl (by decide)
theorem dX7_filled_122 : decode cX7_filled 122 = .ok (.goto (-58), 3) := dqrs2 dqK_167 dqw_cX7_filled_117 5 rfl rfl rfl rfl (by decide)
theorem dX7_filled_125 : decode cX7_filled 125 = .ok (.iload 4, 2) := dqr1 dqK_21 dqw_cX7_filled_117 8 rfl rfl rfl
theorem dX7_filled_127 : decode cX7_filled 127 = .ok (.ifCond .ge 8, 3) := dqrs2 dqK_156 dqw_cX7_filled_117 10 rfl rfl rfl rfl (by decide)
theorem dX7_filled_130 : decode cX7_filled 130 = .ok (.bipush (-3), 2) := dqrs1 dqK_16 dqw_cX7_filled_117 13 rfl rfl rfl (by decide)
theorem dX7_filled_132 : decode cX7_filled 132 = .ok (.goto 5, 3) := dqrs2 dqK_167 dqw_cX7_filled_117 15 rfl rfl rfl rfl (by decide)
theorem dX7_filled_135 : decode cX7_filled 135 = .ok (.iload 4, 2) := dqr1 dqK_21 dqw_cX7_filled_117 18 rfl rfl rfl
theorem dX7_filled_137 : decode cX7_filled 137 = .ok (.ireturn, 1) := dqr0 dqK_172 dqw_cX7_filled_117 20 rfl rfl
theorem dqw_cX7_count_0 : dqLF cX7_count 0 [3, 61, 27] := by decide +kernel
theorem dX7_count_0 : decode cX7_count 0 = .ok (.iconst 0, 1) := dqr0 dqK_3 dqw_cX7_count_0 0 rfl rfl
theorem dX7_count_1 : decode cX7_count 1 = .ok (.istore_n 2, 1) := dqr0 dqK_61 dqw_cX7_count_0 1 rfl rfl
theorem dX7_count_2 : decode cX7_count 2 = .ok (.iload_n 1, 1) := dqr0 dqK_27 dqw_cX7_count_0 2 rfl rfl
theorem dX7_count_3 : decode cX7_count 3 = .ok (.tableswitch 167 0 8 #[49, 54, 59, 91, 96, 101, 106, 111, 116], 49) := by decide +kernel
theorem dqw_cX7_count_52 : dqLF cX7_count 52 [42, 180, 0, 144, 172, 42, 180, 0, 147, 172, 3, 62, 29, 16, 8, 162, 0, 25, 28, 42, 29, 182, 0, 220] := by decide +kernel
theorem dX7_count_52 : decode cX7_count 52 = .ok (.aload_n 0, 1) := dqr0 dqK_42 dqw_cX7_count_52 0 rfl rfl
theorem dX7_count_53 : decode cX7_count 53 = .ok (.getfield 144, 3) := dqr2 dqK_180 dqw_cX7_count_52 1 rfl rfl rfl rfl rfl
theorem dX7_count_56 : decode cX7_count 56 = .ok (.ireturn, 1) := dqr0 dqK_172 dqw_cX7_count_52 4 rfl rfl
theorem dX7_count_57 : decode cX7_count 57 = .ok (.aload_n 0, 1) := dqr0 dqK_42 dqw_cX7_count_52 5 rfl rfl
theorem dX7_count_58 : decode cX7_count 58 = .ok (.getfield 147, 3) := dqr2 dqK_180 dqw_cX7_count_52 6 rfl rfl rfl rfl rfl
theorem dX7_count_61 : decode cX7_count 61 = .ok (.ireturn, 1) := dqr0 dqK_172 dqw_cX7_count_52 9 rfl rfl
theorem dX7_count_62 : decode cX7_count 62 = .ok (.iconst 0, 1) := dqr0 dqK_3 dqw_cX7_count_52 10 rfl rfl
theorem dX7_count_63 : decode cX7_count 63 = .ok (.istore_n 3, 1) := dqr0 dqK_62 dqw_cX7_count_52 11 rfl rfl
theorem dX7_count_64 : decode cX7_count 64 = .ok (.iload_n 3, 1) := dqr0 dqK_29 dqw_cX7_count_52 12 rfl rfl
theorem dX7_count_65 : decode cX7_count 65 = .ok (.bipush 8, 2) := dqrs1 dqK_16 dqw_cX7_count_52 13 rfl rfl rfl (by decide)
theorem dX7_count_67 : decode cX7_count 67 = .ok (.if_icmp .ge 25, 3) := dqrs2 dqK_162 dqw_cX7_count_52 15 rfl rfl rfl rfl (by decide)
theorem dX7_count_70 : decode cX7_count 70 = .ok (.iload_n 2, 1) := dqr0 dqK_28 dqw_cX7_count_52 18 rfl rfl
theorem dX7_count_71 : decode cX7_count 71 = .ok (.aload_n 0, 1) := dqr0 dqK_42 dqw_cX7_count_52 19 rfl rfl
theorem dX7_count_72 : decode cX7_count 72 = .ok (.iload_n 3, 1) := dqr0 dqK_29 dqw_cX7_count_52 20 rfl rfl
theorem dX7_count_73 : decode cX7_count 73 = .ok (.invokevirtual 220, 3) := dqr2 dqK_182 dqw_cX7_count_52 21 rfl rfl rfl rfl rfl
theorem dqw_cX7_count_76 : dqLF cX7_count 76 [153, 0, 7, 4, 167, 0, 4, 3, 96, 61, 132, 3, 1, 167, 255, 231, 28, 172, 42, 180, 1, 57, 172, 42] := by decide +kernel
theorem dX7_count_76 : decode cX7_count 76 = .ok (.ifCond .eq 7, 3) := dqrs2 dqK_153 dqw_cX7_count_76 0 rfl rfl rfl rfl (by decide)
theorem dX7_count_79 : decode cX7_count 79 = .ok (.iconst 1, 1) := dqr0 dqK_4 dqw_cX7_count_76 3 rfl rfl
theorem dX7_count_80 : decode cX7_count 80 = .ok (.goto 4, 3) := dqrs2 dqK_167 dqw_cX7_count_76 4 rfl rfl rfl rfl (by decide)
theorem dX7_count_83 : decode cX7_count 83 = .ok (.iconst 0, 1) := dqr0 dqK_3 dqw_cX7_count_76 7 rfl rfl
theorem dX7_count_84 : decode cX7_count 84 = .ok (.iadd, 1) := dqr0 dqK_96 dqw_cX7_count_76 8 rfl rfl
theorem dX7_count_85 : decode cX7_count 85 = .ok (.istore_n 2, 1) := dqr0 dqK_61 dqw_cX7_count_76 9 rfl rfl
theorem dX7_count_86 : decode cX7_count 86 = .ok (.iinc 3 1, 3) := dqri dqK_132 dqw_cX7_count_76 10 rfl rfl rfl rfl (by decide)
theorem dX7_count_89 : decode cX7_count 89 = .ok (.goto (-25), 3) := dqrs2 dqK_167 dqw_cX7_count_76 13 rfl rfl rfl rfl (by decide)
theorem dX7_count_92 : decode cX7_count 92 = .ok (.iload_n 2, 1) := dqr0 dqK_28 dqw_cX7_count_76 16 rfl rfl
theorem dX7_count_93 : decode cX7_count 93 = .ok (.ireturn, 1) := dqr0 dqK_172 dqw_cX7_count_76 17 rfl rfl
theorem dX7_count_94 : decode cX7_count 94 = .ok (.aload_n 0, 1) := dqr0 dqK_42 dqw_cX7_count_76 18 rfl rfl
theorem dX7_count_95 : decode cX7_count 95 = .ok (.getfield 313, 3) := dqr2 dqK_180 dqw_cX7_count_76 19 rfl rfl rfl rfl rfl
theorem dX7_count_98 : decode cX7_count 98 = .ok (.ireturn, 1) := dqr0 dqK_172 dqw_cX7_count_76 22 rfl rfl
theorem dX7_count_99 : decode cX7_count 99 = .ok (.aload_n 0, 1) := dqr0 dqK_42 dqw_cX7_count_76 23 rfl rfl
theorem dqw_cX7_count_100 : dqLF cX7_count 100 [180, 1, 10, 172, 42, 180, 1, 96, 172, 42, 180, 0, 199, 172, 42, 180, 0, 61, 172, 3, 62, 29, 42] := by decide +kernel
theorem dX7_count_100 : decode cX7_count 100 = .ok (.getfield 266, 3) := dqr2 dqK_180 dqw_cX7_count_100 0 rfl rfl rfl rfl rfl
theorem dX7_count_103 : decode cX7_count 103 = .ok (.ireturn, 1) := dqr0 dqK_172 dqw_cX7_count_100 3 rfl rfl
theorem dX7_count_104 : decode cX7_count 104 = .ok (.aload_n 0, 1) := dqr0 dqK_42 dqw_cX7_count_100 4 rfl rfl
theorem dX7_count_105 : decode cX7_count 105 = .ok (.getfield 352, 3) := dqr2 dqK_180 dqw_cX7_count_100 5 rfl rfl rfl rfl rfl
theorem dX7_count_108 : decode cX7_count 108 = .ok (.ireturn, 1) := dqr0 dqK_172 dqw_cX7_count_100 8 rfl rfl
theorem dX7_count_109 : decode cX7_count 109 = .ok (.aload_n 0, 1) := dqr0 dqK_42 dqw_cX7_count_100 9 rfl rfl
theorem dX7_count_110 : decode cX7_count 110 = .ok (.getfield 199, 3) := dqr2 dqK_180 dqw_cX7_count_100 10 rfl rfl rfl rfl rfl
theorem dX7_count_113 : decode cX7_count 113 = .ok (.ireturn, 1) := dqr0 dqK_172 dqw_cX7_count_100 13 rfl rfl
theorem dX7_count_114 : decode cX7_count 114 = .ok (.aload_n 0, 1) := dqr0 dqK_42 dqw_cX7_count_100 14 rfl rfl
theorem dX7_count_115 : decode cX7_count 115 = .ok (.getfield 61, 3) := dqr2 dqK_180 dqw_cX7_count_100 15 rfl rfl rfl rfl rfl
theorem dX7_count_118 : decode cX7_count 118 = .ok (.ireturn, 1) := dqr0 dqK_172 dqw_cX7_count_100 18 rfl rfl
theorem dX7_count_119 : decode cX7_count 119 = .ok (.iconst 0, 1) := dqr0 dqK_3 dqw_cX7_count_100 19 rfl rfl
theorem dX7_count_120 : decode cX7_count 120 = .ok (.istore_n 3, 1) := dqr0 dqK_62 dqw_cX7_count_100 20 rfl rfl
theorem dX7_count_121 : decode cX7_count 121 = .ok (.iload_n 3, 1) := dqr0 dqK_29 dqw_cX7_count_100 21 rfl rfl
theorem dX7_count_122 : decode cX7_count 122 = .ok (.aload_n 0, 1) := dqr0 dqK_42 dqw_cX7_count_100 22 rfl rfl
theorem dqw_cX7_count_123 : dqLF cX7_count 123 [180, 0, 147, 162, 0, 42, 28, 42, 42, 180, 0, 25, 29, 46, 42, 180, 0, 28, 29, 46, 42, 180, 0, 34] := by decide +kernel
theorem dX7_count_123 : decode cX7_count 123 = .ok (.getfield 147, 3) := dqr2 dqK_180 dqw_cX7_count_123 0 rfl rfl rfl rfl rfl
theorem dX7_count_126 : decode cX7_count 126 = .ok (.if_icmp .ge 42, 3) := dqrs2 dqK_162 dqw_cX7_count_123 3 rfl rfl rfl rfl (by decide)
theorem dX7_count_129 : decode cX7_count 129 = .ok (.iload_n 2, 1) := dqr0 dqK_28 dqw_cX7_count_123 6 rfl rfl
theorem dX7_count_130 : decode cX7_count 130 = .ok (.aload_n 0, 1) := dqr0 dqK_42 dqw_cX7_count_123 7 rfl rfl
theorem dX7_count_131 : decode cX7_count 131 = .ok (.aload_n 0, 1) := dqr0 dqK_42 dqw_cX7_count_123 8 rfl rfl
theorem dX7_count_132 : decode cX7_count 132 = .ok (.getfield 25, 3) := dqr2 dqK_180 dqw_cX7_count_123 9 rfl rfl rfl rfl rfl
theorem dX7_count_135 : decode cX7_count 135 = .ok (.iload_n 3, 1) := dqr0 dqK_29 dqw_cX7_count_123 12 rfl rfl
theorem dX7_count_136 : decode cX7_count 136 = .ok (.iaload, 1) := dqr0 dqK_46 dqw_cX7_count_123 13 rfl rfl
theorem dX7_count_137 : decode cX7_count 137 = .ok (.aload_n 0, 1) := dqr0 dqK_42 dqw_cX7_count_123 14 rfl rfl
theorem dX7_count_138 : decode cX7_count 138 = .ok (.getfield 28, 3) := dqr2 dqK_180 dqw_cX7_count_123 15 rfl rfl rfl rfl rfl
theorem dX7_count_141 : decode cX7_count 141 = .ok (.iload_n 3, 1) := dqr0 dqK_29 dqw_cX7_count_123 18 rfl rfl
theorem dX7_count_142 : decode cX7_count 142 = .ok (.iaload, 1) := dqr0 dqK_46 dqw_cX7_count_123 19 rfl rfl
theorem dX7_count_143 : decode cX7_count 143 = .ok (.aload_n 0, 1) := dqr0 dqK_42 dqw_cX7_count_123 20 rfl rfl
theorem dX7_count_144 : decode cX7_count 144 = .ok (.getfield 34, 3) := dqr2 dqK_180 dqw_cX7_count_123 21 rfl rfl rfl rfl rfl
theorem dqw_cX7_count_147 : dqLF cX7_count 147 [29, 46, 182, 0, 189, 153, 0, 7, 4, 167, 0, 4, 3, 96, 61, 132, 3, 1, 167, 255, 212, 28, 172, 2] := by decide +kernel
theorem dX7_count_147 : decode cX7_count 147 = .ok (.iload_n 3, 1) := dqr0 dqK_29 dqw_cX7_count_147 0 rfl rfl
theorem dX7_count_148 : decode cX7_count 148 = .ok (.iaload, 1) := dqr0 dqK_46 dqw_cX7_count_147 1 rfl rfl
theorem dX7_count_149 : decode cX7_count 149 = .ok (.invokevirtual 189, 3) := dqr2 dqK_182 dqw_cX7_count_147 2 rfl rfl rfl rfl rfl
theorem dX7_count_152 : decode cX7_count 152 = .ok (.ifCond .eq 7, 3) := dqrs2 dqK_153 dqw_cX7_count_147 5 rfl rfl rfl rfl (by decide)
theorem dX7_count_155 : decode cX7_count 155 = .ok (.iconst 1, 1) := dqr0 dqK_4 dqw_cX7_count_147 8 rfl rfl
theorem dX7_count_156 : decode cX7_count 156 = .ok (.goto 4, 3) := dqrs2 dqK_167 dqw_cX7_count_147 9 rfl rfl rfl rfl (by decide)
theorem dX7_count_159 : decode cX7_count 159 = .ok (.iconst 0, 1) := dqr0 dqK_3 dqw_cX7_count_147 12 rfl rfl
theorem dX7_count_160 : decode cX7_count 160 = .ok (.iadd, 1) := dqr0 dqK_96 dqw_cX7_count_147 13 rfl rfl
theorem dX7_count_161 : decode cX7_count 161 = .ok (.istore_n 2, 1) := dqr0 dqK_61 dqw_cX7_count_147 14 rfl rfl
theorem dX7_count_162 : decode cX7_count 162 = .ok (.iinc 3 1, 3) := dqri dqK_132 dqw_cX7_count_147 15 rfl rfl rfl rfl (by decide)
theorem dX7_count_165 : decode cX7_count 165 = .ok (.goto (-44), 3) := dqrs2 dqK_167 dqw_cX7_count_147 18 rfl rfl rfl rfl (by decide)
theorem dX7_count_168 : decode cX7_count 168 = .ok (.iload_n 2, 1) := dqr0 dqK_28 dqw_cX7_count_147 21 rfl rfl
theorem dX7_count_169 : decode cX7_count 169 = .ok (.ireturn, 1) := dqr0 dqK_172 dqw_cX7_count_147 22 rfl rfl
theorem dX7_count_170 : decode cX7_count 170 = .ok (.iconst (-1), 1) := dqr0 dqK_2 dqw_cX7_count_147 23 rfl rfl
theorem dqw_cX7_count_171 : dqLF cX7_count 171 [172] := by decide +kernel
theorem dX7_count_171 : decode cX7_count 171 = .ok (.ireturn, 1) := dqr0 dqK_172 dqw_cX7_count_171 0 rfl rfl
end
