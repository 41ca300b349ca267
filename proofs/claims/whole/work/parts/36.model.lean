theorem k1091 : Jvm.Cond.instanceMethod ({ cls := "BellHammerModel", name := "<init>", desc := "()V" } : Jvm.MethodName) ∈ tb := sub5 (List.mem_of_getElem? (l := tables_1_5) (i := 31) rfl) rfl
theorem k1092 : Jvm.Cond.code ({ cls := "BellHammerModel", name := "<init>", desc := "()V" } : Jvm.MethodName) prog_13_method_1_code (1 : Nat) (Option.none : Option Jvm.ClassFile.FieldType) ∈ tb := sub5 (List.mem_of_getElem? (l := tables_1_5) (i := 32) rfl) rfl
theorem k1093 : Jvm.Cond.methodLink "BellHammerModel" (1 : Nat) ({ cls := "java/lang/Object", name := "<init>", desc := "()V" } : Jvm.MethodName) ∈ tb := sub5 (List.mem_of_getElem? (l := tables_1_5) (i := 33) rfl) rfl
abbrev y_AModel : MethodName := ⟨"BellHammerModel", "<init>", "()V"⟩
theorem d_AModel_0 : decode prog_13_method_1_code 0 = .ok (.aload_n 0, 1) := by decide +kernel
theorem d_AModel_1 : decode prog_13_method_1_code 1 = .ok (.invokespecial 1, 3) := by decide +kernel
theorem d_AModel_4 : decode prog_13_method_1_code 4 = .ok (.aload_n 0, 1) := by decide +kernel
theorem d_AModel_5 : decode prog_13_method_1_code 5 = .ok (.sipush 1600, 3) := by decide +kernel
theorem d_AModel_8 : decode prog_13_method_1_code 8 = .ok (.newarray .int, 2) := by decide +kernel
theorem d_AModel_10 : decode prog_13_method_1_code 10 = .ok (.putfield 7, 3) := by decide +kernel
theorem d_AModel_13 : decode prog_13_method_1_code 13 = .ok (.aload_n 0, 1) := by decide +kernel
theorem d_AModel_14 : decode prog_13_method_1_code 14 = .ok (.iconst (-1), 1) := by decide +kernel
theorem d_AModel_15 : decode prog_13_method_1_code 15 = .ok (.putfield 13, 3) := by decide +kernel
theorem d_AModel_18 : decode prog_13_method_1_code 18 = .ok (.aload_n 0, 1) := by decide +kernel
theorem d_AModel_19 : decode prog_13_method_1_code 19 = .ok (.bipush 6, 2) := by decide +kernel
theorem d_AModel_21 : decode prog_13_method_1_code 21 = .ok (.newarray .int, 2) := by decide +kernel
theorem d_AModel_23 : decode prog_13_method_1_code 23 = .ok (.putfield 17, 3) := by decide +kernel
theorem d_AModel_26 : decode prog_13_method_1_code 26 = .ok (.aload_n 0, 1) := by decide +kernel
theorem d_AModel_27 : decode prog_13_method_1_code 27 = .ok (.iconst 4, 1) := by decide +kernel
theorem d_AModel_28 : decode prog_13_method_1_code 28 = .ok (.newarray .char, 2) := by decide +kernel
theorem d_AModel_30 : decode prog_13_method_1_code 30 = .ok (.dup, 1) := by decide +kernel
theorem d_AModel_31 : decode prog_13_method_1_code 31 = .ok (.iconst 0, 1) := by decide +kernel
theorem d_AModel_32 : decode prog_13_method_1_code 32 = .ok (.bipush 109, 2) := by decide +kernel
theorem d_AModel_34 : decode prog_13_method_1_code 34 = .ok (.castore, 1) := by decide +kernel
theorem d_AModel_35 : decode prog_13_method_1_code 35 = .ok (.dup, 1) := by decide +kernel
theorem d_AModel_36 : decode prog_13_method_1_code 36 = .ok (.iconst 1, 1) := by decide +kernel
theorem d_AModel_37 : decode prog_13_method_1_code 37 = .ok (.bipush 97, 2) := by decide +kernel
theorem d_AModel_39 : decode prog_13_method_1_code 39 = .ok (.castore, 1) := by decide +kernel
theorem d_AModel_40 : decode prog_13_method_1_code 40 = .ok (.dup, 1) := by decide +kernel
theorem d_AModel_41 : decode prog_13_method_1_code 41 = .ok (.iconst 2, 1) := by decide +kernel
theorem d_AModel_42 : decode prog_13_method_1_code 42 = .ok (.bipush 114, 2) := by decide +kernel
theorem d_AModel_44 : decode prog_13_method_1_code 44 = .ok (.castore, 1) := by decide +kernel
theorem d_AModel_45 : decode prog_13_method_1_code 45 = .ok (.dup, 1) := by decide +kernel
theorem d_AModel_46 : decode prog_13_method_1_code 46 = .ok (.iconst 3, 1) := by decide +kernel
theorem d_AModel_47 : decode prog_13_method_1_code 47 = .ok (.bipush 107, 2) := by decide +kernel
theorem d_AModel_49 : decode prog_13_method_1_code 49 = .ok (.castore, 1) := by decide +kernel
theorem d_AModel_50 : decode prog_13_method_1_code 50 = .ok (.putfield 20, 3) := by decide +kernel
theorem d_AModel_53 : decode prog_13_method_1_code 53 = .ok (.aload_n 0, 1) := by decide +kernel
theorem d_AModel_54 : decode prog_13_method_1_code 54 = .ok (.iconst 2, 1) := by decide +kernel
theorem d_AModel_55 : decode prog_13_method_1_code 55 = .ok (.newarray .char, 2) := by decide +kernel
theorem d_AModel_57 : decode prog_13_method_1_code 57 = .ok (.dup, 1) := by decide +kernel
theorem d_AModel_58 : decode prog_13_method_1_code 58 = .ok (.iconst 0, 1) := by decide +kernel
theorem d_AModel_59 : decode prog_13_method_1_code 59 = .ok (.bipush 97, 2) := by decide +kernel
theorem d_AModel_61 : decode prog_13_method_1_code 61 = .ok (.castore, 1) := by decide +kernel
theorem d_AModel_62 : decode prog_13_method_1_code 62 = .ok (.dup, 1) := by decide +kernel
theorem d_AModel_63 : decode prog_13_method_1_code 63 = .ok (.iconst 1, 1) := by decide +kernel
theorem d_AModel_64 : decode prog_13_method_1_code 64 = .ok (.bipush 116, 2) := by decide +kernel
theorem d_AModel_66 : decode prog_13_method_1_code 66 = .ok (.castore, 1) := by decide +kernel
theorem d_AModel_67 : decode prog_13_method_1_code 67 = .ok (.putfield 24, 3) := by decide +kernel
theorem d_AModel_70 : decode prog_13_method_1_code 70 = .ok (.aload_n 0, 1) := by decide +kernel
theorem d_AModel_71 : decode prog_13_method_1_code 71 = .ok (.iconst 5, 1) := by decide +kernel
theorem d_AModel_72 : decode prog_13_method_1_code 72 = .ok (.newarray .char, 2) := by decide +kernel
theorem d_AModel_74 : decode prog_13_method_1_code 74 = .ok (.dup, 1) := by decide +kernel
theorem d_AModel_75 : decode prog_13_method_1_code 75 = .ok (.iconst 0, 1) := by decide +kernel
theorem d_AModel_76 : decode prog_13_method_1_code 76 = .ok (.bipush 116, 2) := by decide +kernel
theorem d_AModel_78 : decode prog_13_method_1_code 78 = .ok (.castore, 1) := by decide +kernel
theorem d_AModel_79 : decode prog_13_method_1_code 79 = .ok (.dup, 1) := by decide +kernel
theorem d_AModel_80 : decode prog_13_method_1_code 80 = .ok (.iconst 1, 1) := by decide +kernel
theorem d_AModel_81 : decode prog_13_method_1_code 81 = .ok (.bipush 114, 2) := by decide +kernel
theorem d_AModel_83 : decode prog_13_method_1_code 83 = .ok (.castore, 1) := by decide +kernel
theorem d_AModel_84 : decode prog_13_method_1_code 84 = .ok (.dup, 1) := by decide +kernel
theorem d_AModel_85 : decode prog_13_method_1_code 85 = .ok (.iconst 2, 1) := by decide +kernel
theorem d_AModel_86 : decode prog_13_method_1_code 86 = .ok (.bipush 105, 2) := by decide +kernel
theorem d_AModel_88 : decode prog_13_method_1_code 88 = .ok (.castore, 1) := by decide +kernel
theorem d_AModel_89 : decode prog_13_method_1_code 89 = .ok (.dup, 1) := by decide +kernel
theorem d_AModel_90 : decode prog_13_method_1_code 90 = .ok (.iconst 3, 1) := by decide +kernel
theorem d_AModel_91 : decode prog_13_method_1_code 91 = .ok (.bipush 101, 2) := by decide +kernel
theorem d_AModel_93 : decode prog_13_method_1_code 93 = .ok (.castore, 1) := by decide +kernel
theorem d_AModel_94 : decode prog_13_method_1_code 94 = .ok (.dup, 1) := by decide +kernel
theorem d_AModel_95 : decode prog_13_method_1_code 95 = .ok (.iconst 4, 1) := by decide +kernel
theorem d_AModel_96 : decode prog_13_method_1_code 96 = .ok (.bipush 114, 2) := by decide +kernel
theorem d_AModel_98 : decode prog_13_method_1_code 98 = .ok (.castore, 1) := by decide +kernel
theorem d_AModel_99 : decode prog_13_method_1_code 99 = .ok (.putfield 27, 3) := by decide +kernel
theorem d_AModel_102 : decode prog_13_method_1_code 102 = .ok (.aload_n 0, 1) := by decide +kernel
theorem d_AModel_103 : decode prog_13_method_1_code 103 = .ok (.iconst 5, 1) := by decide +kernel
theorem d_AModel_104 : decode prog_13_method_1_code 104 = .ok (.newarray .char, 2) := by decide +kernel
theorem d_AModel_106 : decode prog_13_method_1_code 106 = .ok (.dup, 1) := by decide +kernel
theorem d_AModel_107 : decode prog_13_method_1_code 107 = .ok (.iconst 0, 1) := by decide +kernel
theorem d_AModel_108 : decode prog_13_method_1_code 108 = .ok (.bipush 102, 2) := by decide +kernel
theorem d_AModel_110 : decode prog_13_method_1_code 110 = .ok (.castore, 1) := by decide +kernel
theorem d_AModel_111 : decode prog_13_method_1_code 111 = .ok (.dup, 1) := by decide +kernel
theorem d_AModel_112 : decode prog_13_method_1_code 112 = .ok (.iconst 1, 1) := by decide +kernel
theorem d_AModel_113 : decode prog_13_method_1_code 113 = .ok (.bipush 111, 2) := by decide +kernel
theorem d_AModel_115 : decode prog_13_method_1_code 115 = .ok (.castore, 1) := by decide +kernel
theorem d_AModel_116 : decode prog_13_method_1_code 116 = .ok (.dup, 1) := by decide +kernel
theorem d_AModel_117 : decode prog_13_method_1_code 117 = .ok (.iconst 2, 1) := by decide +kernel
theorem d_AModel_118 : decode prog_13_method_1_code 118 = .ok (.bipush 114, 2) := by decide +kernel
theorem d_AModel_120 : decode prog_13_method_1_code 120 = .ok (.castore, 1) := by decide +kernel
theorem d_AModel_121 : decode prog_13_method_1_code 121 = .ok (.dup, 1) := by decide +kernel
theorem d_AModel_122 : decode prog_13_method_1_code 122 = .ok (.iconst 3, 1) := by decide +kernel
theorem d_AModel_123 : decode prog_13_method_1_code 123 = .ok (.bipush 99, 2) := by decide +kernel
theorem d_AModel_125 : decode prog_13_method_1_code 125 = .ok (.castore, 1) := by decide +kernel
theorem d_AModel_126 : decode prog_13_method_1_code 126 = .ok (.dup, 1) := by decide +kernel
theorem d_AModel_127 : decode prog_13_method_1_code 127 = .ok (.iconst 4, 1) := by decide +kernel
theorem d_AModel_128 : decode prog_13_method_1_code 128 = .ok (.bipush 101, 2) := by decide +kernel
theorem d_AModel_130 : decode prog_13_method_1_code 130 = .ok (.castore, 1) := by decide +kernel
theorem d_AModel_131 : decode prog_13_method_1_code 131 = .ok (.putfield 30, 3) := by decide +kernel
theorem d_AModel_134 : decode prog_13_method_1_code 134 = .ok (.aload_n 0, 1) := by decide +kernel
theorem d_AModel_135 : decode prog_13_method_1_code 135 = .ok (.iconst 3, 1) := by decide +kernel
theorem d_AModel_136 : decode prog_13_method_1_code 136 = .ok (.newarray .char, 2) := by decide +kernel
theorem d_AModel_138 : decode prog_13_method_1_code 138 = .ok (.dup, 1) := by decide +kernel
theorem d_AModel_139 : decode prog_13_method_1_code 139 = .ok (.iconst 0, 1) := by decide +kernel
theorem d_AModel_140 : decode prog_13_method_1_code 140 = .ok (.bipush 97, 2) := by decide +kernel
theorem d_AModel_142 : decode prog_13_method_1_code 142 = .ok (.castore, 1) := by decide +kernel
theorem d_AModel_143 : decode prog_13_method_1_code 143 = .ok (.dup, 1) := by decide +kernel
theorem d_AModel_144 : decode prog_13_method_1_code 144 = .ok (.iconst 1, 1) := by decide +kernel
theorem d_AModel_145 : decode prog_13_method_1_code 145 = .ok (.bipush 105, 2) := by decide +kernel
theorem d_AModel_147 : decode prog_13_method_1_code 147 = .ok (.castore, 1) := by decide +kernel
theorem d_AModel_148 : decode prog_13_method_1_code 148 = .ok (.dup, 1) := by decide +kernel
theorem d_AModel_149 : decode prog_13_method_1_code 149 = .ok (.iconst 2, 1) := by decide +kernel
theorem d_AModel_150 : decode prog_13_method_1_code 150 = .ok (.bipush 109, 2) := by decide +kernel
theorem d_AModel_152 : decode prog_13_method_1_code 152 = .ok (.castore, 1) := by decide +kernel
theorem d_AModel_153 : decode prog_13_method_1_code 153 = .ok (.putfield 33, 3) := by decide +kernel
theorem d_AModel_156 : decode prog_13_method_1_code 156 = .ok (.aload_n 0, 1) := by decide +kernel
theorem d_AModel_157 : decode prog_13_method_1_code 157 = .ok (.iconst 5, 1) := by decide +kernel
theorem d_AModel_158 : decode prog_13_method_1_code 158 = .ok (.newarray .char, 2) := by decide +kernel
theorem d_AModel_160 : decode prog_13_method_1_code 160 = .ok (.dup, 1) := by decide +kernel
theorem d_AModel_161 : decode prog_13_method_1_code 161 = .ok (.iconst 0, 1) := by decide +kernel
theorem d_AModel_162 : decode prog_13_method_1_code 162 = .ok (.bipush 116, 2) := by decide +kernel
theorem d_AModel_164 : decode prog_13_method_1_code 164 = .ok (.castore, 1) := by decide +kernel
theorem d_AModel_165 : decode prog_13_method_1_code 165 = .ok (.dup, 1) := by decide +kernel
theorem d_AModel_166 : decode prog_13_method_1_code 166 = .ok (.iconst 1, 1) := by decide +kernel
theorem d_AModel_167 : decode prog_13_method_1_code 167 = .ok (.bipush 105, 2) := by decide +kernel
theorem d_AModel_169 : decode prog_13_method_1_code 169 = .ok (.castore, 1) := by decide +kernel
theorem d_AModel_170 : decode prog_13_method_1_code 170 = .ok (.dup, 1) := by decide +kernel
theorem d_AModel_171 : decode prog_13_method_1_code 171 = .ok (.iconst 2, 1) := by decide +kernel
theorem d_AModel_172 : decode prog_13_method_1_code 172 = .ok (.bipush 114, 2) := by decide +kernel
theorem d_AModel_174 : decode prog_13_method_1_code 174 = .ok (.castore, 1) := by decide +kernel
theorem d_AModel_175 : decode prog_13_method_1_code 175 = .ok (.dup, 1) := by decide +kernel
theorem d_AModel_176 : decode prog_13_method_1_code 176 = .ok (.iconst 3, 1) := by decide +kernel
theorem d_AModel_177 : decode prog_13_method_1_code 177 = .ok (.bipush 101, 2) := by decide +kernel
theorem d_AModel_179 : decode prog_13_method_1_code 179 = .ok (.castore, 1) := by decide +kernel
theorem d_AModel_180 : decode prog_13_method_1_code 180 = .ok (.dup, 1) := by decide +kernel
theorem d_AModel_181 : decode prog_13_method_1_code 181 = .ok (.iconst 4, 1) := by decide +kernel
theorem d_AModel_182 : decode prog_13_method_1_code 182 = .ok (.bipush 115, 2) := by decide +kernel
theorem d_AModel_184 : decode prog_13_method_1_code 184 = .ok (.castore, 1) := by decide +kernel
theorem d_AModel_185 : decode prog_13_method_1_code 185 = .ok (.putfield 36, 3) := by decide +kernel
theorem d_AModel_188 : decode prog_13_method_1_code 188 = .ok (.aload_n 0, 1) := by decide +kernel
theorem d_AModel_189 : decode prog_13_method_1_code 189 = .ok (.iconst 5, 1) := by decide +kernel
theorem d_AModel_190 : decode prog_13_method_1_code 190 = .ok (.newarray .char, 2) := by decide +kernel
theorem d_AModel_192 : decode prog_13_method_1_code 192 = .ok (.dup, 1) := by decide +kernel
theorem d_AModel_193 : decode prog_13_method_1_code 193 = .ok (.iconst 0, 1) := by decide +kernel
theorem d_AModel_194 : decode prog_13_method_1_code 194 = .ok (.bipush 99, 2) := by decide +kernel
theorem d_AModel_196 : decode prog_13_method_1_code 196 = .ok (.castore, 1) := by decide +kernel
theorem d_AModel_197 : decode prog_13_method_1_code 197 = .ok (.dup, 1) := by decide +kernel
theorem d_AModel_198 : decode prog_13_method_1_code 198 = .ok (.iconst 1, 1) := by decide +kernel
theorem d_AModel_199 : decode prog_13_method_1_code 199 = .ok (.bipush 111, 2) := by decide +kernel
theorem d_AModel_201 : decode prog_13_method_1_code 201 = .ok (.castore, 1) := by decide +kernel
theorem d_AModel_202 : decode prog_13_method_1_code 202 = .ok (.dup, 1) := by decide +kernel
theorem d_AModel_203 : decode prog_13_method_1_code 203 = .ok (.iconst 2, 1) := by decide +kernel
theorem d_AModel_204 : decode prog_13_method_1_code 204 = .ok (.bipush 105, 2) := by decide +kernel
theorem d_AModel_206 : decode prog_13_method_1_code 206 = .ok (.castore, 1) := by decide +kernel
theorem d_AModel_207 : decode prog_13_method_1_code 207 = .ok (.dup, 1) := by decide +kernel
theorem d_AModel_208 : decode prog_13_method_1_code 208 = .ok (.iconst 3, 1) := by decide +kernel
theorem d_AModel_209 : decode prog_13_method_1_code 209 = .ok (.bipush 110, 2) := by decide +kernel
theorem d_AModel_211 : decode prog_13_method_1_code 211 = .ok (.castore, 1) := by decide +kernel
theorem d_AModel_212 : decode prog_13_method_1_code 212 = .ok (.dup, 1) := by decide +kernel
theorem d_AModel_213 : decode prog_13_method_1_code 213 = .ok (.iconst 4, 1) := by decide +kernel
theorem d_AModel_214 : decode prog_13_method_1_code 214 = .ok (.bipush 115, 2) := by decide +kernel
theorem d_AModel_216 : decode prog_13_method_1_code 216 = .ok (.castore, 1) := by decide +kernel
theorem d_AModel_217 : decode prog_13_method_1_code 217 = .ok (.putfield 39, 3) := by decide +kernel
theorem d_AModel_220 : decode prog_13_method_1_code 220 = .ok (.aload_n 0, 1) := by decide +kernel
theorem d_AModel_221 : decode prog_13_method_1_code 221 = .ok (.iconst 5, 1) := by decide +kernel
theorem d_AModel_222 : decode prog_13_method_1_code 222 = .ok (.newarray .char, 2) := by decide +kernel
theorem d_AModel_224 : decode prog_13_method_1_code 224 = .ok (.dup, 1) := by decide +kernel
theorem d_AModel_225 : decode prog_13_method_1_code 225 = .ok (.iconst 0, 1) := by decide +kernel
theorem d_AModel_226 : decode prog_13_method_1_code 226 = .ok (.bipush 115, 2) := by decide +kernel
theorem d_AModel_228 : decode prog_13_method_1_code 228 = .ok (.castore, 1) := by decide +kernel
theorem d_AModel_229 : decode prog_13_method_1_code 229 = .ok (.dup, 1) := by decide +kernel
theorem d_AModel_230 : decode prog_13_method_1_code 230 = .ok (.iconst 1, 1) := by decide +kernel
theorem d_AModel_231 : decode prog_13_method_1_code 231 = .ok (.bipush 116, 2) := by decide +kernel
theorem d_AModel_233 : decode prog_13_method_1_code 233 = .ok (.castore, 1) := by decide +kernel
theorem d_AModel_234 : decode prog_13_method_1_code 234 = .ok (.dup, 1) := by decide +kernel
theorem d_AModel_235 : decode prog_13_method_1_code 235 = .ok (.iconst 2, 1) := by decide +kernel
theorem d_AModel_236 : decode prog_13_method_1_code 236 = .ok (.bipush 97, 2) := by decide +kernel
theorem d_AModel_238 : decode prog_13_method_1_code 238 = .ok (.castore, 1) := by decide +kernel
theorem d_AModel_239 : decode prog_13_method_1_code 239 = .ok (.dup, 1) := by decide +kernel
theorem d_AModel_240 : decode prog_13_method_1_code 240 = .ok (.iconst 3, 1) := by decide +kernel
theorem d_AModel_241 : decode prog_13_method_1_code 241 = .ok (.bipush 121, 2) := by decide +kernel
theorem d_AModel_243 : decode prog_13_method_1_code 243 = .ok (.castore, 1) := by decide +kernel
theorem d_AModel_244 : decode prog_13_method_1_code 244 = .ok (.dup, 1) := by decide +kernel
theorem d_AModel_245 : decode prog_13_method_1_code 245 = .ok (.iconst 4, 1) := by decide +kernel
theorem d_AModel_246 : decode prog_13_method_1_code 246 = .ok (.bipush 115, 2) := by decide +kernel
theorem d_AModel_248 : decode prog_13_method_1_code 248 = .ok (.castore, 1) := by decide +kernel
theorem d_AModel_249 : decode prog_13_method_1_code 249 = .ok (.putfield 42, 3) := by decide +kernel
theorem d_AModel_252 : decode prog_13_method_1_code 252 = .ok (.aload_n 0, 1) := by decide +kernel
theorem d_AModel_253 : decode prog_13_method_1_code 253 = .ok (.iconst 4, 1) := by decide +kernel
theorem d_AModel_254 : decode prog_13_method_1_code 254 = .ok (.newarray .char, 2) := by decide +kernel
theorem d_AModel_256 : decode prog_13_method_1_code 256 = .ok (.dup, 1) := by decide +kernel
theorem d_AModel_257 : decode prog_13_method_1_code 257 = .ok (.iconst 0, 1) := by decide +kernel
theorem d_AModel_258 : decode prog_13_method_1_code 258 = .ok (.bipush 108, 2) := by decide +kernel
theorem d_AModel_260 : decode prog_13_method_1_code 260 = .ok (.castore, 1) := by decide +kernel
theorem d_AModel_261 : decode prog_13_method_1_code 261 = .ok (.dup, 1) := by decide +kernel
theorem d_AModel_262 : decode prog_13_method_1_code 262 = .ok (.iconst 1, 1) := by decide +kernel
theorem d_AModel_263 : decode prog_13_method_1_code 263 = .ok (.bipush 97, 2) := by decide +kernel
theorem d_AModel_265 : decode prog_13_method_1_code 265 = .ok (.castore, 1) := by decide +kernel
theorem d_AModel_266 : decode prog_13_method_1_code 266 = .ok (.dup, 1) := by decide +kernel
theorem d_AModel_267 : decode prog_13_method_1_code 267 = .ok (.iconst 2, 1) := by decide +kernel
theorem d_AModel_268 : decode prog_13_method_1_code 268 = .ok (.bipush 100, 2) := by decide +kernel
theorem d_AModel_270 : decode prog_13_method_1_code 270 = .ok (.castore, 1) := by decide +kernel
theorem d_AModel_271 : decode prog_13_method_1_code 271 = .ok (.dup, 1) := by decide +kernel
theorem d_AModel_272 : decode prog_13_method_1_code 272 = .ok (.iconst 3, 1) := by decide +kernel
theorem d_AModel_273 : decode prog_13_method_1_code 273 = .ok (.bipush 121, 2) := by decide +kernel
theorem d_AModel_275 : decode prog_13_method_1_code 275 = .ok (.castore, 1) := by decide +kernel
theorem d_AModel_276 : decode prog_13_method_1_code 276 = .ok (.putfield 45, 3) := by decide +kernel
theorem d_AModel_279 : decode prog_13_method_1_code 279 = .ok (.aload_n 0, 1) := by decide +kernel
theorem d_AModel_280 : decode prog_13_method_1_code 280 = .ok (.iconst 4, 1) := by decide +kernel
theorem d_AModel_281 : decode prog_13_method_1_code 281 = .ok (.newarray .char, 2) := by decide +kernel
theorem d_AModel_283 : decode prog_13_method_1_code 283 = .ok (.dup, 1) := by decide +kernel
theorem d_AModel_284 : decode prog_13_method_1_code 284 = .ok (.iconst 0, 1) := by decide +kernel
theorem d_AModel_285 : decode prog_13_method_1_code 285 = .ok (.bipush 108, 2) := by decide +kernel
theorem d_AModel_287 : decode prog_13_method_1_code 287 = .ok (.castore, 1) := by decide +kernel
theorem d_AModel_288 : decode prog_13_method_1_code 288 = .ok (.dup, 1) := by decide +kernel
theorem d_AModel_289 : decode prog_13_method_1_code 289 = .ok (.iconst 1, 1) := by decide +kernel
theorem d_AModel_290 : decode prog_13_method_1_code 290 = .ok (.bipush 101, 2) := by decide +kernel
theorem d_AModel_292 : decode prog_13_method_1_code 292 = .ok (.castore, 1) := by decide +kernel
theorem d_AModel_293 : decode prog_13_method_1_code 293 = .ok (.dup, 1) := by decide +kernel
theorem d_AModel_294 : decode prog_13_method_1_code 294 = .ok (.iconst 2, 1) := by decide +kernel
theorem d_AModel_295 : decode prog_13_method_1_code 295 = .ok (.bipush 97, 2) := by decide +kernel
theorem d_AModel_297 : decode prog_13_method_1_code 297 = .ok (.castore, 1) := by decide +kernel
theorem d_AModel_298 : decode prog_13_method_1_code 298 = .ok (.dup, 1) := by decide +kernel
theorem d_AModel_299 : decode prog_13_method_1_code 299 = .ok (.iconst 3, 1) := by decide +kernel
theorem d_AModel_300 : decode prog_13_method_1_code 300 = .ok (.bipush 110, 2) := by decide +kernel
theorem d_AModel_302 : decode prog_13_method_1_code 302 = .ok (.castore, 1) := by decide +kernel
theorem d_AModel_303 : decode prog_13_method_1_code 303 = .ok (.putfield 48, 3) := by decide +kernel
theorem d_AModel_306 : decode prog_13_method_1_code 306 = .ok (.aload_n 0, 1) := by decide +kernel
theorem d_AModel_307 : decode prog_13_method_1_code 307 = .ok (.iconst 4, 1) := by decide +kernel
theorem d_AModel_308 : decode prog_13_method_1_code 308 = .ok (.newarray .char, 2) := by decide +kernel
theorem d_AModel_310 : decode prog_13_method_1_code 310 = .ok (.dup, 1) := by decide +kernel
theorem d_AModel_311 : decode prog_13_method_1_code 311 = .ok (.iconst 0, 1) := by decide +kernel
theorem d_AModel_312 : decode prog_13_method_1_code 312 = .ok (.bipush 119, 2) := by decide +kernel
theorem d_AModel_314 : decode prog_13_method_1_code 314 = .ok (.castore, 1) := by decide +kernel
theorem d_AModel_315 : decode prog_13_method_1_code 315 = .ok (.dup, 1) := by decide +kernel
theorem d_AModel_316 : decode prog_13_method_1_code 316 = .ok (.iconst 1, 1) := by decide +kernel
theorem d_AModel_317 : decode prog_13_method_1_code 317 = .ok (.bipush 104, 2) := by decide +kernel
theorem d_AModel_319 : decode prog_13_method_1_code 319 = .ok (.castore, 1) := by decide +kernel
theorem d_AModel_320 : decode prog_13_method_1_code 320 = .ok (.dup, 1) := by decide +kernel
theorem d_AModel_321 : decode prog_13_method_1_code 321 = .ok (.iconst 2, 1) := by decide +kernel
theorem d_AModel_322 : decode prog_13_method_1_code 322 = .ok (.bipush 101, 2) := by decide +kernel
theorem d_AModel_324 : decode prog_13_method_1_code 324 = .ok (.castore, 1) := by decide +kernel
theorem d_AModel_325 : decode prog_13_method_1_code 325 = .ok (.dup, 1) := by decide +kernel
theorem d_AModel_326 : decode prog_13_method_1_code 326 = .ok (.iconst 3, 1) := by decide +kernel
theorem d_AModel_327 : decode prog_13_method_1_code 327 = .ok (.bipush 110, 2) := by decide +kernel
theorem d_AModel_329 : decode prog_13_method_1_code 329 = .ok (.castore, 1) := by decide +kernel
theorem d_AModel_330 : decode prog_13_method_1_code 330 = .ok (.putfield 51, 3) := by decide +kernel
theorem d_AModel_333 : decode prog_13_method_1_code 333 = .ok (.aload_n 0, 1) := by decide +kernel
theorem d_AModel_334 : decode prog_13_method_1_code 334 = .ok (.iconst 4, 1) := by decide +kernel
theorem d_AModel_335 : decode prog_13_method_1_code 335 = .ok (.newarray .char, 2) := by decide +kernel
theorem d_AModel_337 : decode prog_13_method_1_code 337 = .ok (.dup, 1) := by decide +kernel
theorem d_AModel_338 : decode prog_13_method_1_code 338 = .ok (.iconst 0, 1) := by decide +kernel
theorem d_AModel_339 : decode prog_13_method_1_code 339 = .ok (.bipush 98, 2) := by decide +kernel
theorem d_AModel_341 : decode prog_13_method_1_code 341 = .ok (.castore, 1) := by decide +kernel
theorem d_AModel_342 : decode prog_13_method_1_code 342 = .ok (.dup, 1) := by decide +kernel
theorem d_AModel_343 : decode prog_13_method_1_code 343 = .ok (.iconst 1, 1) := by decide +kernel
theorem d_AModel_344 : decode prog_13_method_1_code 344 = .ok (.bipush 101, 2) := by decide +kernel
theorem d_AModel_346 : decode prog_13_method_1_code 346 = .ok (.castore, 1) := by decide +kernel
theorem d_AModel_347 : decode prog_13_method_1_code 347 = .ok (.dup, 1) := by decide +kernel
theorem d_AModel_348 : decode prog_13_method_1_code 348 = .ok (.iconst 2, 1) := by decide +kernel
theorem d_AModel_349 : decode prog_13_method_1_code 349 = .ok (.bipush 108, 2) := by decide +kernel
theorem d_AModel_351 : decode prog_13_method_1_code 351 = .ok (.castore, 1) := by decide +kernel
theorem d_AModel_352 : decode prog_13_method_1_code 352 = .ok (.dup, 1) := by decide +kernel
theorem d_AModel_353 : decode prog_13_method_1_code 353 = .ok (.iconst 3, 1) := by decide +kernel
theorem d_AModel_354 : decode prog_13_method_1_code 354 = .ok (.bipush 108, 2) := by decide +kernel
theorem d_AModel_356 : decode prog_13_method_1_code 356 = .ok (.castore, 1) := by decide +kernel
theorem d_AModel_357 : decode prog_13_method_1_code 357 = .ok (.putfield 54, 3) := by decide +kernel
theorem d_AModel_360 : decode prog_13_method_1_code 360 = .ok (.aload_n 0, 1) := by decide +kernel
theorem d_AModel_361 : decode prog_13_method_1_code 361 = .ok (.iconst 5, 1) := by decide +kernel
theorem d_AModel_362 : decode prog_13_method_1_code 362 = .ok (.newarray .char, 2) := by decide +kernel
theorem d_AModel_364 : decode prog_13_method_1_code 364 = .ok (.dup, 1) := by decide +kernel
theorem d_AModel_365 : decode prog_13_method_1_code 365 = .ok (.iconst 0, 1) := by decide +kernel
theorem d_AModel_366 : decode prog_13_method_1_code 366 = .ok (.bipush 112, 2) := by decide +kernel
theorem d_AModel_368 : decode prog_13_method_1_code 368 = .ok (.castore, 1) := by decide +kernel
theorem d_AModel_369 : decode prog_13_method_1_code 369 = .ok (.dup, 1) := by decide +kernel
theorem d_AModel_370 : decode prog_13_method_1_code 370 = .ok (.iconst 1, 1) := by decide +kernel
theorem d_AModel_371 : decode prog_13_method_1_code 371 = .ok (.bipush 114, 2) := by decide +kernel
theorem d_AModel_373 : decode prog_13_method_1_code 373 = .ok (.castore, 1) := by decide +kernel
theorem d_AModel_374 : decode prog_13_method_1_code 374 = .ok (.dup, 1) := by decide +kernel
theorem d_AModel_375 : decode prog_13_method_1_code 375 = .ok (.iconst 2, 1) := by decide +kernel
theorem d_AModel_376 : decode prog_13_method_1_code 376 = .ok (.bipush 105, 2) := by decide +kernel
theorem d_AModel_378 : decode prog_13_method_1_code 378 = .ok (.castore, 1) := by decide +kernel
theorem d_AModel_379 : decode prog_13_method_1_code 379 = .ok (.dup, 1) := by decide +kernel
theorem d_AModel_380 : decode prog_13_method_1_code 380 = .ok (.iconst 3, 1) := by decide +kernel
theorem d_AModel_381 : decode prog_13_method_1_code 381 = .ok (.bipush 99, 2) := by decide +kernel
theorem d_AModel_383 : decode prog_13_method_1_code 383 = .ok (.castore, 1) := by decide +kernel
theorem d_AModel_384 : decode prog_13_method_1_code 384 = .ok (.dup, 1) := by decide +kernel
theorem d_AModel_385 : decode prog_13_method_1_code 385 = .ok (.iconst 4, 1) := by decide +kernel
theorem d_AModel_386 : decode prog_13_method_1_code 386 = .ok (.bipush 101, 2) := by decide +kernel
theorem d_AModel_388 : decode prog_13_method_1_code 388 = .ok (.castore, 1) := by decide +kernel
theorem d_AModel_389 : decode prog_13_method_1_code 389 = .ok (.putfield 57, 3) := by decide +kernel
theorem d_AModel_392 : decode prog_13_method_1_code 392 = .ok (.aload_n 0, 1) := by decide +kernel
theorem d_AModel_393 : decode prog_13_method_1_code 393 = .ok (.iconst 5, 1) := by decide +kernel
theorem d_AModel_394 : decode prog_13_method_1_code 394 = .ok (.newarray .char, 2) := by decide +kernel
theorem d_AModel_396 : decode prog_13_method_1_code 396 = .ok (.dup, 1) := by decide +kernel
theorem d_AModel_397 : decode prog_13_method_1_code 397 = .ok (.iconst 0, 1) := by decide +kernel
theorem d_AModel_398 : decode prog_13_method_1_code 398 = .ok (.bipush 116, 2) := by decide +kernel
theorem d_AModel_400 : decode prog_13_method_1_code 400 = .ok (.castore, 1) := by decide +kernel
theorem d_AModel_401 : decode prog_13_method_1_code 401 = .ok (.dup, 1) := by decide +kernel
theorem d_AModel_402 : decode prog_13_method_1_code 402 = .ok (.iconst 1, 1) := by decide +kernel
theorem d_AModel_403 : decode prog_13_method_1_code 403 = .ok (.bipush 114, 2) := by decide +kernel
theorem d_AModel_405 : decode prog_13_method_1_code 405 = .ok (.castore, 1) := by decide +kernel
theorem d_AModel_406 : decode prog_13_method_1_code 406 = .ok (.dup, 1) := by decide +kernel
theorem d_AModel_407 : decode prog_13_method_1_code 407 = .ok (.iconst 2, 1) := by decide +kernel
theorem d_AModel_408 : decode prog_13_method_1_code 408 = .ok (.bipush 105, 2) := by decide +kernel
theorem d_AModel_410 : decode prog_13_method_1_code 410 = .ok (.castore, 1) := by decide +kernel
theorem d_AModel_411 : decode prog_13_method_1_code 411 = .ok (.dup, 1) := by decide +kernel
theorem d_AModel_412 : decode prog_13_method_1_code 412 = .ok (.iconst 3, 1) := by decide +kernel
theorem d_AModel_413 : decode prog_13_method_1_code 413 = .ok (.bipush 101, 2) := by decide +kernel
theorem d_AModel_415 : decode prog_13_method_1_code 415 = .ok (.castore, 1) := by decide +kernel
theorem d_AModel_416 : decode prog_13_method_1_code 416 = .ok (.dup, 1) := by decide +kernel
theorem d_AModel_417 : decode prog_13_method_1_code 417 = .ok (.iconst 4, 1) := by decide +kernel
theorem d_AModel_418 : decode prog_13_method_1_code 418 = .ok (.bipush 115, 2) := by decide +kernel
theorem d_AModel_420 : decode prog_13_method_1_code 420 = .ok (.castore, 1) := by decide +kernel
theorem d_AModel_421 : decode prog_13_method_1_code 421 = .ok (.putfield 60, 3) := by decide +kernel
theorem d_AModel_424 : decode prog_13_method_1_code 424 = .ok (.aload_n 0, 1) := by decide +kernel
theorem d_AModel_425 : decode prog_13_method_1_code 425 = .ok (.iconst 5, 1) := by decide +kernel
theorem d_AModel_426 : decode prog_13_method_1_code 426 = .ok (.newarray .char, 2) := by decide +kernel
theorem d_AModel_428 : decode prog_13_method_1_code 428 = .ok (.dup, 1) := by decide +kernel
theorem d_AModel_429 : decode prog_13_method_1_code 429 = .ok (.iconst 0, 1) := by decide +kernel
theorem d_AModel_430 : decode prog_13_method_1_code 430 = .ok (.bipush 115, 2) := by decide +kernel
theorem d_AModel_432 : decode prog_13_method_1_code 432 = .ok (.castore, 1) := by decide +kernel
theorem d_AModel_433 : decode prog_13_method_1_code 433 = .ok (.dup, 1) := by decide +kernel
theorem d_AModel_434 : decode prog_13_method_1_code 434 = .ok (.iconst 1, 1) := by decide +kernel
theorem d_AModel_435 : decode prog_13_method_1_code 435 = .ok (.bipush 108, 2) := by decide +kernel
theorem d_AModel_437 : decode prog_13_method_1_code 437 = .ok (.castore, 1) := by decide +kernel
theorem d_AModel_438 : decode prog_13_method_1_code 438 = .ok (.dup, 1) := by decide +kernel
theorem d_AModel_439 : decode prog_13_method_1_code 439 = .ok (.iconst 2, 1) := by decide +kernel
theorem d_AModel_440 : decode prog_13_method_1_code 440 = .ok (.bipush 97, 2) := by decide +kernel
theorem d_AModel_442 : decode prog_13_method_1_code 442 = .ok (.castore, 1) := by decide +kernel
theorem d_AModel_443 : decode prog_13_method_1_code 443 = .ok (.dup, 1) := by decide +kernel
theorem d_AModel_444 : decode prog_13_method_1_code 444 = .ok (.iconst 3, 1) := by decide +kernel
theorem d_AModel_445 : decode prog_13_method_1_code 445 = .ok (.bipush 99, 2) := by decide +kernel
theorem d_AModel_447 : decode prog_13_method_1_code 447 = .ok (.castore, 1) := by decide +kernel
theorem d_AModel_448 : decode prog_13_method_1_code 448 = .ok (.dup, 1) := by decide +kernel
theorem d_AModel_449 : decode prog_13_method_1_code 449 = .ok (.iconst 4, 1) := by decide +kernel
theorem d_AModel_450 : decode prog_13_method_1_code 450 = .ok (.bipush 107, 2) := by decide +kernel
theorem d_AModel_452 : decode prog_13_method_1_code 452 = .ok (.castore, 1) := by decide +kernel
theorem d_AModel_453 : decode prog_13_method_1_code 453 = .ok (.putfield 63, 3) := by decide +kernel
theorem d_AModel_456 : decode prog_13_method_1_code 456 = .ok (.aload_n 0, 1) := by decide +kernel
theorem d_AModel_457 : decode prog_13_method_1_code 457 = .ok (.iconst 5, 1) := by decide +kernel
theorem d_AModel_458 : decode prog_13_method_1_code 458 = .ok (.newarray .char, 2) := by decide +kernel
theorem d_AModel_460 : decode prog_13_method_1_code 460 = .ok (.dup, 1) := by decide +kernel
theorem d_AModel_461 : decode prog_13_method_1_code 461 = .ok (.iconst 0, 1) := by decide +kernel
theorem d_AModel_462 : decode prog_13_method_1_code 462 = .ok (.bipush 99, 2) := by decide +kernel
theorem d_AModel_464 : decode prog_13_method_1_code 464 = .ok (.castore, 1) := by decide +kernel
theorem d_AModel_465 : decode prog_13_method_1_code 465 = .ok (.dup, 1) := by decide +kernel
theorem d_AModel_466 : decode prog_13_method_1_code 466 = .ok (.iconst 1, 1) := by decide +kernel
theorem d_AModel_467 : decode prog_13_method_1_code 467 = .ok (.bipush 114, 2) := by decide +kernel
theorem d_AModel_469 : decode prog_13_method_1_code 469 = .ok (.castore, 1) := by decide +kernel
theorem d_AModel_470 : decode prog_13_method_1_code 470 = .ok (.dup, 1) := by decide +kernel
theorem d_AModel_471 : decode prog_13_method_1_code 471 = .ok (.iconst 2, 1) := by decide +kernel
theorem d_AModel_472 : decode prog_13_method_1_code 472 = .ok (.bipush 111, 2) := by decide +kernel
theorem d_AModel_474 : decode prog_13_method_1_code 474 = .ok (.castore, 1) := by decide +kernel
theorem d_AModel_475 : decode prog_13_method_1_code 475 = .ok (.dup, 1) := by decide +kernel
theorem d_AModel_476 : decode prog_13_method_1_code 476 = .ok (.iconst 3, 1) := by decide +kernel
theorem d_AModel_477 : decode prog_13_method_1_code 477 = .ok (.bipush 119, 2) := by decide +kernel
theorem d_AModel_479 : decode prog_13_method_1_code 479 = .ok (.castore, 1) := by decide +kernel
theorem d_AModel_480 : decode prog_13_method_1_code 480 = .ok (.dup, 1) := by decide +kernel
theorem d_AModel_481 : decode prog_13_method_1_code 481 = .ok (.iconst 4, 1) := by decide +kernel
theorem d_AModel_482 : decode prog_13_method_1_code 482 = .ok (.bipush 100, 2) := by decide +kernel
theorem d_AModel_484 : decode prog_13_method_1_code 484 = .ok (.castore, 1) := by decide +kernel
theorem d_AModel_485 : decode prog_13_method_1_code 485 = .ok (.putfield 66, 3) := by decide +kernel
theorem d_AModel_488 : decode prog_13_method_1_code 488 = .ok (.aload_n 0, 1) := by decide +kernel
theorem d_AModel_489 : decode prog_13_method_1_code 489 = .ok (.iconst 4, 1) := by decide +kernel
theorem d_AModel_490 : decode prog_13_method_1_code 490 = .ok (.newarray .char, 2) := by decide +kernel
theorem d_AModel_492 : decode prog_13_method_1_code 492 = .ok (.dup, 1) := by decide +kernel
theorem d_AModel_493 : decode prog_13_method_1_code 493 = .ok (.iconst 0, 1) := by decide +kernel
theorem d_AModel_494 : decode prog_13_method_1_code 494 = .ok (.bipush 110, 2) := by decide +kernel
theorem d_AModel_496 : decode prog_13_method_1_code 496 = .ok (.castore, 1) := by decide +kernel
theorem d_AModel_497 : decode prog_13_method_1_code 497 = .ok (.dup, 1) := by decide +kernel
theorem d_AModel_498 : decode prog_13_method_1_code 498 = .ok (.iconst 1, 1) := by decide +kernel
theorem d_AModel_499 : decode prog_13_method_1_code 499 = .ok (.bipush 101, 2) := by decide +kernel
theorem d_AModel_501 : decode prog_13_method_1_code 501 = .ok (.castore, 1) := by decide +kernel
theorem d_AModel_502 : decode prog_13_method_1_code 502 = .ok (.dup, 1) := by decide +kernel
theorem d_AModel_503 : decode prog_13_method_1_code 503 = .ok (.iconst 2, 1) := by decide +kernel
theorem d_AModel_504 : decode prog_13_method_1_code 504 = .ok (.bipush 97, 2) := by decide +kernel
theorem d_AModel_506 : decode prog_13_method_1_code 506 = .ok (.castore, 1) := by decide +kernel
theorem d_AModel_507 : decode prog_13_method_1_code 507 = .ok (.dup, 1) := by decide +kernel
theorem d_AModel_508 : decode prog_13_method_1_code 508 = .ok (.iconst 3, 1) := by decide +kernel
theorem d_AModel_509 : decode prog_13_method_1_code 509 = .ok (.bipush 114, 2) := by decide +kernel
theorem d_AModel_511 : decode prog_13_method_1_code 511 = .ok (.castore, 1) := by decide +kernel
theorem d_AModel_512 : decode prog_13_method_1_code 512 = .ok (.putfield 69, 3) := by decide +kernel
theorem d_AModel_515 : decode prog_13_method_1_code 515 = .ok (.aload_n 0, 1) := by decide +kernel
theorem d_AModel_516 : decode prog_13_method_1_code 516 = .ok (.iconst 5, 1) := by decide +kernel
theorem d_AModel_517 : decode prog_13_method_1_code 517 = .ok (.newarray .char, 2) := by decide +kernel
theorem d_AModel_519 : decode prog_13_method_1_code 519 = .ok (.dup, 1) := by decide +kernel
theorem d_AModel_520 : decode prog_13_method_1_code 520 = .ok (.iconst 0, 1) := by decide +kernel
theorem d_AModel_521 : decode prog_13_method_1_code 521 = .ok (.bipush 99, 2) := by decide +kernel
theorem d_AModel_523 : decode prog_13_method_1_code 523 = .ok (.castore, 1) := by decide +kernel
theorem d_AModel_524 : decode prog_13_method_1_code 524 = .ok (.dup, 1) := by decide +kernel
theorem d_AModel_525 : decode prog_13_method_1_code 525 = .ok (.iconst 1, 1) := by decide +kernel
theorem d_AModel_526 : decode prog_13_method_1_code 526 = .ok (.bipush 111, 2) := by decide +kernel
theorem d_AModel_528 : decode prog_13_method_1_code 528 = .ok (.castore, 1) := by decide +kernel
theorem d_AModel_529 : decode prog_13_method_1_code 529 = .ok (.dup, 1) := by decide +kernel
theorem d_AModel_530 : decode prog_13_method_1_code 530 = .ok (.iconst 2, 1) := by decide +kernel
theorem d_AModel_531 : decode prog_13_method_1_code 531 = .ok (.bipush 109, 2) := by decide +kernel
theorem d_AModel_533 : decode prog_13_method_1_code 533 = .ok (.castore, 1) := by decide +kernel
theorem d_AModel_534 : decode prog_13_method_1_code 534 = .ok (.dup, 1) := by decide +kernel
theorem d_AModel_535 : decode prog_13_method_1_code 535 = .ok (.iconst 3, 1) := by decide +kernel
theorem d_AModel_536 : decode prog_13_method_1_code 536 = .ok (.bipush 101, 2) := by decide +kernel
theorem d_AModel_538 : decode prog_13_method_1_code 538 = .ok (.castore, 1) := by decide +kernel
theorem d_AModel_539 : decode prog_13_method_1_code 539 = .ok (.dup, 1) := by decide +kernel
theorem d_AModel_540 : decode prog_13_method_1_code 540 = .ok (.iconst 4, 1) := by decide +kernel
theorem d_AModel_541 : decode prog_13_method_1_code 541 = .ok (.bipush 115, 2) := by decide +kernel
theorem d_AModel_543 : decode prog_13_method_1_code 543 = .ok (.castore, 1) := by decide +kernel
theorem d_AModel_544 : decode prog_13_method_1_code 544 = .ok (.putfield 72, 3) := by decide +kernel
theorem d_AModel_547 : decode prog_13_method_1_code 547 = .ok (.aload_n 0, 1) := by decide +kernel
theorem d_AModel_548 : decode prog_13_method_1_code 548 = .ok (.iconst 5, 1) := by decide +kernel
theorem d_AModel_549 : decode prog_13_method_1_code 549 = .ok (.newarray .char, 2) := by decide +kernel
theorem d_AModel_551 : decode prog_13_method_1_code 551 = .ok (.dup, 1) := by decide +kernel
theorem d_AModel_552 : decode prog_13_method_1_code 552 = .ok (.iconst 0, 1) := by decide +kernel
theorem d_AModel_553 : decode prog_13_method_1_code 553 = .ok (.bipush 116, 2) := by decide +kernel
theorem d_AModel_555 : decode prog_13_method_1_code 555 = .ok (.castore, 1) := by decide +kernel
theorem d_AModel_556 : decode prog_13_method_1_code 556 = .ok (.dup, 1) := by decide +kernel
theorem d_AModel_557 : decode prog_13_method_1_code 557 = .ok (.iconst 1, 1) := by decide +kernel
theorem d_AModel_558 : decode prog_13_method_1_code 558 = .ok (.bipush 114, 2) := by decide +kernel
theorem d_AModel_560 : decode prog_13_method_1_code 560 = .ok (.castore, 1) := by decide +kernel
theorem d_AModel_561 : decode prog_13_method_1_code 561 = .ok (.dup, 1) := by decide +kernel
theorem d_AModel_562 : decode prog_13_method_1_code 562 = .ok (.iconst 2, 1) := by decide +kernel
theorem d_AModel_563 : decode prog_13_method_1_code 563 = .ok (.bipush 105, 2) := by decide +kernel
theorem d_AModel_565 : decode prog_13_method_1_code 565 = .ok (.castore, 1) := by decide +kernel
theorem d_AModel_566 : decode prog_13_method_1_code 566 = .ok (.dup, 1) := by decide +kernel
theorem d_AModel_567 : decode prog_13_method_1_code 567 = .ok (.iconst 3, 1) := by decide +kernel
theorem d_AModel_568 : decode prog_13_method_1_code 568 = .ok (.bipush 101, 2) := by decide +kernel
theorem d_AModel_570 : decode prog_13_method_1_code 570 = .ok (.castore, 1) := by decide +kernel
theorem d_AModel_571 : decode prog_13_method_1_code 571 = .ok (.dup, 1) := by decide +kernel
theorem d_AModel_572 : decode prog_13_method_1_code 572 = .ok (.iconst 4, 1) := by decide +kernel
theorem d_AModel_573 : decode prog_13_method_1_code 573 = .ok (.bipush 100, 2) := by decide +kernel
theorem d_AModel_575 : decode prog_13_method_1_code 575 = .ok (.castore, 1) := by decide +kernel
theorem d_AModel_576 : decode prog_13_method_1_code 576 = .ok (.putfield 75, 3) := by decide +kernel
theorem d_AModel_579 : decode prog_13_method_1_code 579 = .ok (.aload_n 0, 1) := by decide +kernel
theorem d_AModel_580 : decode prog_13_method_1_code 580 = .ok (.iconst 4, 1) := by decide +kernel
theorem d_AModel_581 : decode prog_13_method_1_code 581 = .ok (.newarray .char, 2) := by decide +kernel
theorem d_AModel_583 : decode prog_13_method_1_code 583 = .ok (.dup, 1) := by decide +kernel
theorem d_AModel_584 : decode prog_13_method_1_code 584 = .ok (.iconst 0, 1) := by decide +kernel
theorem d_AModel_585 : decode prog_13_method_1_code 585 = .ok (.bipush 108, 2) := by decide +kernel
theorem d_AModel_587 : decode prog_13_method_1_code 587 = .ok (.castore, 1) := by decide +kernel
theorem d_AModel_588 : decode prog_13_method_1_code 588 = .ok (.dup, 1) := by decide +kernel
theorem d_AModel_589 : decode prog_13_method_1_code 589 = .ok (.iconst 1, 1) := by decide +kernel
theorem d_AModel_590 : decode prog_13_method_1_code 590 = .ok (.bipush 97, 2) := by decide +kernel
theorem d_AModel_592 : decode prog_13_method_1_code 592 = .ok (.castore, 1) := by decide +kernel
theorem d_AModel_593 : decode prog_13_method_1_code 593 = .ok (.dup, 1) := by decide +kernel
theorem d_AModel_594 : decode prog_13_method_1_code 594 = .ok (.iconst 2, 1) := by decide +kernel
theorem d_AModel_595 : decode prog_13_method_1_code 595 = .ok (.bipush 115, 2) := by decide +kernel
theorem d_AModel_597 : decode prog_13_method_1_code 597 = .ok (.castore, 1) := by decide +kernel
theorem d_AModel_598 : decode prog_13_method_1_code 598 = .ok (.dup, 1) := by decide +kernel
theorem d_AModel_599 : decode prog_13_method_1_code 599 = .ok (.iconst 3, 1) := by decide +kernel
theorem d_AModel_600 : decode prog_13_method_1_code 600 = .ok (.bipush 116, 2) := by decide +kernel
theorem d_AModel_602 : decode prog_13_method_1_code 602 = .ok (.castore, 1) := by decide +kernel
theorem d_AModel_603 : decode prog_13_method_1_code 603 = .ok (.putfield 78, 3) := by decide +kernel
theorem d_AModel_606 : decode prog_13_method_1_code 606 = .ok (.aload_n 0, 1) := by decide +kernel
theorem d_AModel_607 : decode prog_13_method_1_code 607 = .ok (.iconst 5, 1) := by decide +kernel
theorem d_AModel_608 : decode prog_13_method_1_code 608 = .ok (.newarray .char, 2) := by decide +kernel
theorem d_AModel_610 : decode prog_13_method_1_code 610 = .ok (.dup, 1) := by decide +kernel
theorem d_AModel_611 : decode prog_13_method_1_code 611 = .ok (.iconst 0, 1) := by decide +kernel
theorem d_AModel_612 : decode prog_13_method_1_code 612 = .ok (.bipush 114, 2) := by decide +kernel
theorem d_AModel_614 : decode prog_13_method_1_code 614 = .ok (.castore, 1) := by decide +kernel
theorem d_AModel_615 : decode prog_13_method_1_code 615 = .ok (.dup, 1) := by decide +kernel
theorem d_AModel_616 : decode prog_13_method_1_code 616 = .ok (.iconst 1, 1) := by decide +kernel
theorem d_AModel_617 : decode prog_13_method_1_code 617 = .ok (.bipush 105, 2) := by decide +kernel
theorem d_AModel_619 : decode prog_13_method_1_code 619 = .ok (.castore, 1) := by decide +kernel
theorem d_AModel_620 : decode prog_13_method_1_code 620 = .ok (.dup, 1) := by decide +kernel
theorem d_AModel_621 : decode prog_13_method_1_code 621 = .ok (.iconst 2, 1) := by decide +kernel
theorem d_AModel_622 : decode prog_13_method_1_code 622 = .ok (.bipush 110, 2) := by decide +kernel
theorem d_AModel_624 : decode prog_13_method_1_code 624 = .ok (.castore, 1) := by decide +kernel
theorem d_AModel_625 : decode prog_13_method_1_code 625 = .ok (.dup, 1) := by decide +kernel
theorem d_AModel_626 : decode prog_13_method_1_code 626 = .ok (.iconst 3, 1) := by decide +kernel
theorem d_AModel_627 : decode prog_13_method_1_code 627 = .ok (.bipush 103, 2) := by decide +kernel
theorem d_AModel_629 : decode prog_13_method_1_code 629 = .ok (.castore, 1) := by decide +kernel
theorem d_AModel_630 : decode prog_13_method_1_code 630 = .ok (.dup, 1) := by decide +kernel
theorem d_AModel_631 : decode prog_13_method_1_code 631 = .ok (.iconst 4, 1) := by decide +kernel
theorem d_AModel_632 : decode prog_13_method_1_code 632 = .ok (.bipush 115, 2) := by decide +kernel
theorem d_AModel_634 : decode prog_13_method_1_code 634 = .ok (.castore, 1) := by decide +kernel
theorem d_AModel_635 : decode prog_13_method_1_code 635 = .ok (.putfield 81, 3) := by decide +kernel
theorem d_AModel_638 : decode prog_13_method_1_code 638 = .ok (.aload_n 0, 1) := by decide +kernel
theorem d_AModel_639 : decode prog_13_method_1_code 639 = .ok (.iconst 2, 1) := by decide +kernel
theorem d_AModel_640 : decode prog_13_method_1_code 640 = .ok (.newarray .char, 2) := by decide +kernel
theorem d_AModel_642 : decode prog_13_method_1_code 642 = .ok (.dup, 1) := by decide +kernel
theorem d_AModel_643 : decode prog_13_method_1_code 643 = .ok (.iconst 0, 1) := by decide +kernel
theorem d_AModel_644 : decode prog_13_method_1_code 644 = .ok (.bipush 111, 2) := by decide +kernel
theorem d_AModel_646 : decode prog_13_method_1_code 646 = .ok (.castore, 1) := by decide +kernel
theorem d_AModel_647 : decode prog_13_method_1_code 647 = .ok (.dup, 1) := by decide +kernel
theorem d_AModel_648 : decode prog_13_method_1_code 648 = .ok (.iconst 1, 1) := by decide +kernel
theorem d_AModel_649 : decode prog_13_method_1_code 649 = .ok (.bipush 114, 2) := by decide +kernel
theorem d_AModel_651 : decode prog_13_method_1_code 651 = .ok (.castore, 1) := by decide +kernel
theorem d_AModel_652 : decode prog_13_method_1_code 652 = .ok (.putfield 84, 3) := by decide +kernel
theorem d_AModel_655 : decode prog_13_method_1_code 655 = .ok (.aload_n 0, 1) := by decide +kernel
theorem d_AModel_656 : decode prog_13_method_1_code 656 = .ok (.iconst 3, 1) := by decide +kernel
theorem d_AModel_657 : decode prog_13_method_1_code 657 = .ok (.newarray .char, 2) := by decide +kernel
theorem d_AModel_659 : decode prog_13_method_1_code 659 = .ok (.dup, 1) := by decide +kernel
theorem d_AModel_660 : decode prog_13_method_1_code 660 = .ok (.iconst 0, 1) := by decide +kernel
theorem d_AModel_661 : decode prog_13_method_1_code 661 = .ok (.bipush 97, 2) := by decide +kernel
theorem d_AModel_663 : decode prog_13_method_1_code 663 = .ok (.castore, 1) := by decide +kernel
theorem d_AModel_664 : decode prog_13_method_1_code 664 = .ok (.dup, 1) := by decide +kernel
theorem d_AModel_665 : decode prog_13_method_1_code 665 = .ok (.iconst 1, 1) := by decide +kernel
theorem d_AModel_666 : decode prog_13_method_1_code 666 = .ok (.bipush 110, 2) := by decide +kernel
theorem d_AModel_668 : decode prog_13_method_1_code 668 = .ok (.castore, 1) := by decide +kernel
theorem d_AModel_669 : decode prog_13_method_1_code 669 = .ok (.dup, 1) := by decide +kernel
theorem d_AModel_670 : decode prog_13_method_1_code 670 = .ok (.iconst 2, 1) := by decide +kernel
theorem d_AModel_671 : decode prog_13_method_1_code 671 = .ok (.bipush 100, 2) := by decide +kernel
theorem d_AModel_673 : decode prog_13_method_1_code 673 = .ok (.castore, 1) := by decide +kernel
theorem d_AModel_674 : decode prog_13_method_1_code 674 = .ok (.putfield 87, 3) := by decide +kernel
theorem d_AModel_677 : decode prog_13_method_1_code 677 = .ok (.aload_n 0, 1) := by decide +kernel
theorem d_AModel_678 : decode prog_13_method_1_code 678 = .ok (.iconst 3, 1) := by decide +kernel
theorem d_AModel_679 : decode prog_13_method_1_code 679 = .ok (.newarray .char, 2) := by decide +kernel
theorem d_AModel_681 : decode prog_13_method_1_code 681 = .ok (.dup, 1) := by decide +kernel
theorem d_AModel_682 : decode prog_13_method_1_code 682 = .ok (.iconst 0, 1) := by decide +kernel
theorem d_AModel_683 : decode prog_13_method_1_code 683 = .ok (.bipush 110, 2) := by decide +kernel
theorem d_AModel_685 : decode prog_13_method_1_code 685 = .ok (.castore, 1) := by decide +kernel
theorem d_AModel_686 : decode prog_13_method_1_code 686 = .ok (.dup, 1) := by decide +kernel
theorem d_AModel_687 : decode prog_13_method_1_code 687 = .ok (.iconst 1, 1) := by decide +kernel
theorem d_AModel_688 : decode prog_13_method_1_code 688 = .ok (.bipush 111, 2) := by decide +kernel
theorem d_AModel_690 : decode prog_13_method_1_code 690 = .ok (.castore, 1) := by decide +kernel
theorem d_AModel_691 : decode prog_13_method_1_code 691 = .ok (.dup, 1) := by decide +kernel
theorem d_AModel_692 : decode prog_13_method_1_code 692 = .ok (.iconst 2, 1) := by decide +kernel
theorem d_AModel_693 : decode prog_13_method_1_code 693 = .ok (.bipush 116, 2) := by decide +kernel
theorem d_AModel_695 : decode prog_13_method_1_code 695 = .ok (.castore, 1) := by decide +kernel
theorem d_AModel_696 : decode prog_13_method_1_code 696 = .ok (.putfield 90, 3) := by decide +kernel
theorem d_AModel_699 : decode prog_13_method_1_code 699 = .ok (.aload_n 0, 1) := by decide +kernel
theorem d_AModel_700 : decode prog_13_method_1_code 700 = .ok (.iconst 3, 1) := by decide +kernel
theorem d_AModel_701 : decode prog_13_method_1_code 701 = .ok (.newarray .char, 2) := by decide +kernel
theorem d_AModel_703 : decode prog_13_method_1_code 703 = .ok (.dup, 1) := by decide +kernel
theorem d_AModel_704 : decode prog_13_method_1_code 704 = .ok (.iconst 0, 1) := by decide +kernel
theorem d_AModel_705 : decode prog_13_method_1_code 705 = .ok (.bipush 97, 2) := by decide +kernel
theorem d_AModel_707 : decode prog_13_method_1_code 707 = .ok (.castore, 1) := by decide +kernel
theorem d_AModel_708 : decode prog_13_method_1_code 708 = .ok (.dup, 1) := by decide +kernel
theorem d_AModel_709 : decode prog_13_method_1_code 709 = .ok (.iconst 1, 1) := by decide +kernel
theorem d_AModel_710 : decode prog_13_method_1_code 710 = .ok (.bipush 108, 2) := by decide +kernel
theorem d_AModel_712 : decode prog_13_method_1_code 712 = .ok (.castore, 1) := by decide +kernel
theorem d_AModel_713 : decode prog_13_method_1_code 713 = .ok (.dup, 1) := by decide +kernel
theorem d_AModel_714 : decode prog_13_method_1_code 714 = .ok (.iconst 2, 1) := by decide +kernel
theorem d_AModel_715 : decode prog_13_method_1_code 715 = .ok (.bipush 108, 2) := by decide +kernel
theorem d_AModel_717 : decode prog_13_method_1_code 717 = .ok (.castore, 1) := by decide +kernel
theorem d_AModel_718 : decode prog_13_method_1_code 718 = .ok (.putfield 93, 3) := by decide +kernel
theorem d_AModel_721 : decode prog_13_method_1_code 721 = .ok (.aload_n 0, 1) := by decide +kernel
theorem d_AModel_722 : decode prog_13_method_1_code 722 = .ok (.iconst 3, 1) := by decide +kernel
theorem d_AModel_723 : decode prog_13_method_1_code 723 = .ok (.newarray .char, 2) := by decide +kernel
theorem d_AModel_725 : decode prog_13_method_1_code 725 = .ok (.dup, 1) := by decide +kernel
theorem d_AModel_726 : decode prog_13_method_1_code 726 = .ok (.iconst 0, 1) := by decide +kernel
theorem d_AModel_727 : decode prog_13_method_1_code 727 = .ok (.bipush 109, 2) := by decide +kernel
theorem d_AModel_729 : decode prog_13_method_1_code 729 = .ok (.castore, 1) := by decide +kernel
theorem d_AModel_730 : decode prog_13_method_1_code 730 = .ok (.dup, 1) := by decide +kernel
theorem d_AModel_731 : decode prog_13_method_1_code 731 = .ok (.iconst 1, 1) := by decide +kernel
theorem d_AModel_732 : decode prog_13_method_1_code 732 = .ok (.bipush 105, 2) := by decide +kernel
theorem d_AModel_734 : decode prog_13_method_1_code 734 = .ok (.castore, 1) := by decide +kernel
theorem d_AModel_735 : decode prog_13_method_1_code 735 = .ok (.dup, 1) := by decide +kernel
theorem d_AModel_736 : decode prog_13_method_1_code 736 = .ok (.iconst 2, 1) := by decide +kernel
theorem d_AModel_737 : decode prog_13_method_1_code 737 = .ok (.bipush 110, 2) := by decide +kernel
theorem d_AModel_739 : decode prog_13_method_1_code 739 = .ok (.castore, 1) := by decide +kernel
theorem d_AModel_740 : decode prog_13_method_1_code 740 = .ok (.putfield 96, 3) := by decide +kernel
theorem d_AModel_743 : decode prog_13_method_1_code 743 = .ok (.aload_n 0, 1) := by decide +kernel
theorem d_AModel_744 : decode prog_13_method_1_code 744 = .ok (.iconst 3, 1) := by decide +kernel
theorem d_AModel_745 : decode prog_13_method_1_code 745 = .ok (.newarray .char, 2) := by decide +kernel
theorem d_AModel_747 : decode prog_13_method_1_code 747 = .ok (.dup, 1) := by decide +kernel
theorem d_AModel_748 : decode prog_13_method_1_code 748 = .ok (.iconst 0, 1) := by decide +kernel
theorem d_AModel_749 : decode prog_13_method_1_code 749 = .ok (.bipush 109, 2) := by decide +kernel
theorem d_AModel_751 : decode prog_13_method_1_code 751 = .ok (.castore, 1) := by decide +kernel
theorem d_AModel_752 : decode prog_13_method_1_code 752 = .ok (.dup, 1) := by decide +kernel
theorem d_AModel_753 : decode prog_13_method_1_code 753 = .ok (.iconst 1, 1) := by decide +kernel
theorem d_AModel_754 : decode prog_13_method_1_code 754 = .ok (.bipush 97, 2) := by decide +kernel
theorem d_AModel_756 : decode prog_13_method_1_code 756 = .ok (.castore, 1) := by decide +kernel
theorem d_AModel_757 : decode prog_13_method_1_code 757 = .ok (.dup, 1) := by decide +kernel
theorem d_AModel_758 : decode prog_13_method_1_code 758 = .ok (.iconst 2, 1) := by decide +kernel
theorem d_AModel_759 : decode prog_13_method_1_code 759 = .ok (.bipush 120, 2) := by decide +kernel
theorem d_AModel_761 : decode prog_13_method_1_code 761 = .ok (.castore, 1) := by decide +kernel
theorem d_AModel_762 : decode prog_13_method_1_code 762 = .ok (.putfield 99, 3) := by decide +kernel
theorem d_AModel_765 : decode prog_13_method_1_code 765 = .ok (.aload_n 0, 1) := by decide +kernel
theorem d_AModel_766 : decode prog_13_method_1_code 766 = .ok (.bipush 6, 2) := by decide +kernel
theorem d_AModel_768 : decode prog_13_method_1_code 768 = .ok (.newarray .int, 2) := by decide +kernel
theorem d_AModel_770 : decode prog_13_method_1_code 770 = .ok (.putfield 102, 3) := by decide +kernel
theorem d_AModel_773 : decode prog_13_method_1_code 773 = .ok (.aload_n 0, 1) := by decide +kernel
theorem d_AModel_774 : decode prog_13_method_1_code 774 = .ok (.bipush 32, 2) := by decide +kernel
theorem d_AModel_776 : decode prog_13_method_1_code 776 = .ok (.newarray .long, 2) := by decide +kernel
theorem d_AModel_778 : decode prog_13_method_1_code 778 = .ok (.putfield 105, 3) := by decide +kernel
theorem d_AModel_781 : decode prog_13_method_1_code 781 = .ok (.aload_n 0, 1) := by decide +kernel
theorem d_AModel_782 : decode prog_13_method_1_code 782 = .ok (.bipush 12, 2) := by decide +kernel
theorem d_AModel_784 : decode prog_13_method_1_code 784 = .ok (.newarray .int, 2) := by decide +kernel
theorem d_AModel_786 : decode prog_13_method_1_code 786 = .ok (.putfield 109, 3) := by decide +kernel
theorem d_AModel_789 : decode prog_13_method_1_code 789 = .ok (.aload_n 0, 1) := by decide +kernel
theorem d_AModel_790 : decode prog_13_method_1_code 790 = .ok (.bipush 96, 2) := by decide +kernel
theorem d_AModel_792 : decode prog_13_method_1_code 792 = .ok (.newarray .int, 2) := by decide +kernel
theorem d_AModel_794 : decode prog_13_method_1_code 794 = .ok (.putfield 112, 3) := by decide +kernel
theorem d_AModel_797 : decode prog_13_method_1_code 797 = .ok (.aload_n 0, 1) := by decide +kernel
theorem d_AModel_798 : decode prog_13_method_1_code 798 = .ok (.bipush 18, 2) := by decide +kernel
theorem d_AModel_800 : decode prog_13_method_1_code 800 = .ok (.newarray .int, 2) := by decide +kernel
theorem d_AModel_802 : decode prog_13_method_1_code 802 = .ok (.dup, 1) := by decide +kernel
theorem d_AModel_803 : decode prog_13_method_1_code 803 = .ok (.iconst 0, 1) := by decide +kernel
theorem d_AModel_804 : decode prog_13_method_1_code 804 = .ok (.bipush 50, 2) := by decide +kernel
theorem d_AModel_806 : decode prog_13_method_1_code 806 = .ok (.iastore, 1) := by decide +kernel
theorem d_AModel_807 : decode prog_13_method_1_code 807 = .ok (.dup, 1) := by decide +kernel
theorem d_AModel_808 : decode prog_13_method_1_code 808 = .ok (.iconst 1, 1) := by decide +kernel
theorem d_AModel_809 : decode prog_13_method_1_code 809 = .ok (.iconst 1, 1) := by decide +kernel
theorem d_AModel_810 : decode prog_13_method_1_code 810 = .ok (.iastore, 1) := by decide +kernel
theorem d_AModel_811 : decode prog_13_method_1_code 811 = .ok (.dup, 1) := by decide +kernel
theorem d_AModel_812 : decode prog_13_method_1_code 812 = .ok (.iconst 2, 1) := by decide +kernel
theorem d_AModel_813 : decode prog_13_method_1_code 813 = .ok (.iconst 3, 1) := by decide +kernel
theorem d_AModel_814 : decode prog_13_method_1_code 814 = .ok (.iastore, 1) := by decide +kernel
theorem d_AModel_815 : decode prog_13_method_1_code 815 = .ok (.dup, 1) := by decide +kernel
theorem d_AModel_816 : decode prog_13_method_1_code 816 = .ok (.iconst 3, 1) := by decide +kernel
theorem d_AModel_817 : decode prog_13_method_1_code 817 = .ok (.bipush 20, 2) := by decide +kernel
theorem d_AModel_819 : decode prog_13_method_1_code 819 = .ok (.iastore, 1) := by decide +kernel
theorem d_AModel_820 : decode prog_13_method_1_code 820 = .ok (.dup, 1) := by decide +kernel
theorem d_AModel_821 : decode prog_13_method_1_code 821 = .ok (.iconst 4, 1) := by decide +kernel
theorem d_AModel_822 : decode prog_13_method_1_code 822 = .ok (.iconst 0, 1) := by decide +kernel
theorem d_AModel_823 : decode prog_13_method_1_code 823 = .ok (.iastore, 1) := by decide +kernel
theorem d_AModel_824 : decode prog_13_method_1_code 824 = .ok (.dup, 1) := by decide +kernel
theorem d_AModel_825 : decode prog_13_method_1_code 825 = .ok (.iconst 5, 1) := by decide +kernel
theorem d_AModel_826 : decode prog_13_method_1_code 826 = .ok (.iconst 3, 1) := by decide +kernel
theorem d_AModel_827 : decode prog_13_method_1_code 827 = .ok (.iastore, 1) := by decide +kernel
theorem d_AModel_828 : decode prog_13_method_1_code 828 = .ok (.dup, 1) := by decide +kernel
theorem d_AModel_829 : decode prog_13_method_1_code 829 = .ok (.bipush 6, 2) := by decide +kernel
theorem d_AModel_831 : decode prog_13_method_1_code 831 = .ok (.iconst 3, 1) := by decide +kernel
theorem d_AModel_832 : decode prog_13_method_1_code 832 = .ok (.iastore, 1) := by decide +kernel
theorem d_AModel_833 : decode prog_13_method_1_code 833 = .ok (.dup, 1) := by decide +kernel
theorem d_AModel_834 : decode prog_13_method_1_code 834 = .ok (.bipush 7, 2) := by decide +kernel
theorem d_AModel_836 : decode prog_13_method_1_code 836 = .ok (.iconst 1, 1) := by decide +kernel
theorem d_AModel_837 : decode prog_13_method_1_code 837 = .ok (.iastore, 1) := by decide +kernel
theorem d_AModel_838 : decode prog_13_method_1_code 838 = .ok (.dup, 1) := by decide +kernel
theorem d_AModel_839 : decode prog_13_method_1_code 839 = .ok (.bipush 8, 2) := by decide +kernel
theorem d_AModel_841 : decode prog_13_method_1_code 841 = .ok (.iconst 0, 1) := by decide +kernel
theorem d_AModel_842 : decode prog_13_method_1_code 842 = .ok (.iastore, 1) := by decide +kernel
theorem d_AModel_843 : decode prog_13_method_1_code 843 = .ok (.dup, 1) := by decide +kernel
theorem d_AModel_844 : decode prog_13_method_1_code 844 = .ok (.bipush 9, 2) := by decide +kernel
theorem d_AModel_846 : decode prog_13_method_1_code 846 = .ok (.bipush 50, 2) := by decide +kernel
theorem d_AModel_848 : decode prog_13_method_1_code 848 = .ok (.iastore, 1) := by decide +kernel
theorem d_AModel_849 : decode prog_13_method_1_code 849 = .ok (.dup, 1) := by decide +kernel
theorem d_AModel_850 : decode prog_13_method_1_code 850 = .ok (.bipush 10, 2) := by decide +kernel
theorem d_AModel_852 : decode prog_13_method_1_code 852 = .ok (.iconst 1, 1) := by decide +kernel
theorem d_AModel_853 : decode prog_13_method_1_code 853 = .ok (.iastore, 1) := by decide +kernel
theorem d_AModel_854 : decode prog_13_method_1_code 854 = .ok (.dup, 1) := by decide +kernel
theorem d_AModel_855 : decode prog_13_method_1_code 855 = .ok (.bipush 11, 2) := by decide +kernel
theorem d_AModel_857 : decode prog_13_method_1_code 857 = .ok (.iconst 3, 1) := by decide +kernel
theorem d_AModel_858 : decode prog_13_method_1_code 858 = .ok (.iastore, 1) := by decide +kernel
theorem d_AModel_859 : decode prog_13_method_1_code 859 = .ok (.dup, 1) := by decide +kernel
theorem d_AModel_860 : decode prog_13_method_1_code 860 = .ok (.bipush 12, 2) := by decide +kernel
theorem d_AModel_862 : decode prog_13_method_1_code 862 = .ok (.bipush 20, 2) := by decide +kernel
theorem d_AModel_864 : decode prog_13_method_1_code 864 = .ok (.iastore, 1) := by decide +kernel
theorem d_AModel_865 : decode prog_13_method_1_code 865 = .ok (.dup, 1) := by decide +kernel
theorem d_AModel_866 : decode prog_13_method_1_code 866 = .ok (.bipush 13, 2) := by decide +kernel
theorem d_AModel_868 : decode prog_13_method_1_code 868 = .ok (.iconst 0, 1) := by decide +kernel
theorem d_AModel_869 : decode prog_13_method_1_code 869 = .ok (.iastore, 1) := by decide +kernel
theorem d_AModel_870 : decode prog_13_method_1_code 870 = .ok (.dup, 1) := by decide +kernel
theorem d_AModel_871 : decode prog_13_method_1_code 871 = .ok (.bipush 14, 2) := by decide +kernel
theorem d_AModel_873 : decode prog_13_method_1_code 873 = .ok (.iconst 3, 1) := by decide +kernel
theorem d_AModel_874 : decode prog_13_method_1_code 874 = .ok (.iastore, 1) := by decide +kernel
theorem d_AModel_875 : decode prog_13_method_1_code 875 = .ok (.dup, 1) := by decide +kernel
theorem d_AModel_876 : decode prog_13_method_1_code 876 = .ok (.bipush 15, 2) := by decide +kernel
theorem d_AModel_878 : decode prog_13_method_1_code 878 = .ok (.iconst 3, 1) := by decide +kernel
theorem d_AModel_879 : decode prog_13_method_1_code 879 = .ok (.iastore, 1) := by decide +kernel
theorem d_AModel_880 : decode prog_13_method_1_code 880 = .ok (.dup, 1) := by decide +kernel
theorem d_AModel_881 : decode prog_13_method_1_code 881 = .ok (.bipush 16, 2) := by decide +kernel
theorem d_AModel_883 : decode prog_13_method_1_code 883 = .ok (.iconst 1, 1) := by decide +kernel
theorem d_AModel_884 : decode prog_13_method_1_code 884 = .ok (.iastore, 1) := by decide +kernel
theorem d_AModel_885 : decode prog_13_method_1_code 885 = .ok (.dup, 1) := by decide +kernel
theorem d_AModel_886 : decode prog_13_method_1_code 886 = .ok (.bipush 17, 2) := by decide +kernel
theorem d_AModel_888 : decode prog_13_method_1_code 888 = .ok (.iconst 0, 1) := by decide +kernel
theorem d_AModel_889 : decode prog_13_method_1_code 889 = .ok (.iastore, 1) := by decide +kernel
theorem d_AModel_890 : decode prog_13_method_1_code 890 = .ok (.putfield 115, 3) := by decide +kernel
theorem d_AModel_893 : decode prog_13_method_1_code 893 = .ok (.aload_n 0, 1) := by decide +kernel
theorem d_AModel_894 : decode prog_13_method_1_code 894 = .ok (.sipush 3200, 3) := by decide +kernel
theorem d_AModel_897 : decode prog_13_method_1_code 897 = .ok (.newarray .int, 2) := by decide +kernel
theorem d_AModel_899 : decode prog_13_method_1_code 899 = .ok (.putfield 118, 3) := by decide +kernel
theorem d_AModel_902 : decode prog_13_method_1_code 902 = .ok (.aload_n 0, 1) := by decide +kernel
theorem d_AModel_903 : decode prog_13_method_1_code 903 = .ok (.sipush 1700, 3) := by decide +kernel
theorem d_AModel_906 : decode prog_13_method_1_code 906 = .ok (.newarray .int, 2) := by decide +kernel
theorem d_AModel_908 : decode prog_13_method_1_code 908 = .ok (.putfield 121, 3) := by decide +kernel
theorem d_AModel_911 : decode prog_13_method_1_code 911 = .ok (.aload_n 0, 1) := by decide +kernel
theorem d_AModel_912 : decode prog_13_method_1_code 912 = .ok (.bipush 12, 2) := by decide +kernel
theorem d_AModel_914 : decode prog_13_method_1_code 914 = .ok (.newarray .int, 2) := by decide +kernel
theorem d_AModel_916 : decode prog_13_method_1_code 916 = .ok (.putfield 124, 3) := by decide +kernel
theorem d_AModel_919 : decode prog_13_method_1_code 919 = .ok (.aload_n 0, 1) := by decide +kernel
theorem d_AModel_920 : decode prog_13_method_1_code 920 = .ok (.bipush 12, 2) := by decide +kernel
theorem d_AModel_922 : decode prog_13_method_1_code 922 = .ok (.newarray .int, 2) := by decide +kernel
theorem d_AModel_924 : decode prog_13_method_1_code 924 = .ok (.putfield 127, 3) := by decide +kernel
theorem d_AModel_927 : decode prog_13_method_1_code 927 = .ok (.aload_n 0, 1) := by decide +kernel
theorem d_AModel_928 : decode prog_13_method_1_code 928 = .ok (.sipush 1700, 3) := by decide +kernel
theorem d_AModel_931 : decode prog_13_method_1_code 931 = .ok (.newarray .long, 2) := by decide +kernel
theorem d_AModel_933 : decode prog_13_method_1_code 933 = .ok (.putfield 130, 3) := by decide +kernel
theorem d_AModel_936 : decode prog_13_method_1_code 936 = .ok (.aload_n 0, 1) := by decide +kernel
theorem d_AModel_937 : decode prog_13_method_1_code 937 = .ok (.bipush 6, 2) := by decide +kernel
theorem d_AModel_939 : decode prog_13_method_1_code 939 = .ok (.newarray .int, 2) := by decide +kernel
theorem d_AModel_941 : decode prog_13_method_1_code 941 = .ok (.putfield 133, 3) := by decide +kernel
theorem d_AModel_944 : decode prog_13_method_1_code 944 = .ok (.aload_n 0, 1) := by decide +kernel
theorem d_AModel_945 : decode prog_13_method_1_code 945 = .ok (.bipush 10, 2) := by decide +kernel
theorem d_AModel_947 : decode prog_13_method_1_code 947 = .ok (.newarray .int, 2) := by decide +kernel
theorem d_AModel_949 : decode prog_13_method_1_code 949 = .ok (.dup, 1) := by decide +kernel
theorem d_AModel_950 : decode prog_13_method_1_code 950 = .ok (.iconst 0, 1) := by decide +kernel
theorem d_AModel_951 : decode prog_13_method_1_code 951 = .ok (.iconst 0, 1) := by decide +kernel
theorem d_AModel_952 : decode prog_13_method_1_code 952 = .ok (.iastore, 1) := by decide +kernel
theorem d_AModel_953 : decode prog_13_method_1_code 953 = .ok (.dup, 1) := by decide +kernel
theorem d_AModel_954 : decode prog_13_method_1_code 954 = .ok (.iconst 1, 1) := by decide +kernel
theorem d_AModel_955 : decode prog_13_method_1_code 955 = .ok (.iconst 0, 1) := by decide +kernel
theorem d_AModel_956 : decode prog_13_method_1_code 956 = .ok (.iastore, 1) := by decide +kernel
theorem d_AModel_957 : decode prog_13_method_1_code 957 = .ok (.dup, 1) := by decide +kernel
theorem d_AModel_958 : decode prog_13_method_1_code 958 = .ok (.iconst 2, 1) := by decide +kernel
theorem d_AModel_959 : decode prog_13_method_1_code 959 = .ok (.iconst 0, 1) := by decide +kernel
theorem d_AModel_960 : decode prog_13_method_1_code 960 = .ok (.iastore, 1) := by decide +kernel
theorem d_AModel_961 : decode prog_13_method_1_code 961 = .ok (.dup, 1) := by decide +kernel
theorem d_AModel_962 : decode prog_13_method_1_code 962 = .ok (.iconst 3, 1) := by decide +kernel
theorem d_AModel_963 : decode prog_13_method_1_code 963 = .ok (.bipush 50, 2) := by decide +kernel
theorem d_AModel_965 : decode prog_13_method_1_code 965 = .ok (.iastore, 1) := by decide +kernel
theorem d_AModel_966 : decode prog_13_method_1_code 966 = .ok (.dup, 1) := by decide +kernel
theorem d_AModel_967 : decode prog_13_method_1_code 967 = .ok (.iconst 4, 1) := by decide +kernel
theorem d_AModel_968 : decode prog_13_method_1_code 968 = .ok (.bipush 20, 2) := by decide +kernel
theorem d_AModel_970 : decode prog_13_method_1_code 970 = .ok (.iastore, 1) := by decide +kernel
theorem d_AModel_971 : decode prog_13_method_1_code 971 = .ok (.dup, 1) := by decide +kernel
theorem d_AModel_972 : decode prog_13_method_1_code 972 = .ok (.iconst 5, 1) := by decide +kernel
theorem d_AModel_973 : decode prog_13_method_1_code 973 = .ok (.iconst 1, 1) := by decide +kernel
theorem d_AModel_974 : decode prog_13_method_1_code 974 = .ok (.iastore, 1) := by decide +kernel
theorem d_AModel_975 : decode prog_13_method_1_code 975 = .ok (.dup, 1) := by decide +kernel
theorem d_AModel_976 : decode prog_13_method_1_code 976 = .ok (.bipush 6, 2) := by decide +kernel
theorem d_AModel_978 : decode prog_13_method_1_code 978 = .ok (.iconst 0, 1) := by decide +kernel
theorem d_AModel_979 : decode prog_13_method_1_code 979 = .ok (.iastore, 1) := by decide +kernel
theorem d_AModel_980 : decode prog_13_method_1_code 980 = .ok (.dup, 1) := by decide +kernel
theorem d_AModel_981 : decode prog_13_method_1_code 981 = .ok (.bipush 7, 2) := by decide +kernel
theorem d_AModel_983 : decode prog_13_method_1_code 983 = .ok (.iconst 0, 1) := by decide +kernel
theorem d_AModel_984 : decode prog_13_method_1_code 984 = .ok (.iastore, 1) := by decide +kernel
theorem d_AModel_985 : decode prog_13_method_1_code 985 = .ok (.dup, 1) := by decide +kernel
theorem d_AModel_986 : decode prog_13_method_1_code 986 = .ok (.bipush 8, 2) := by decide +kernel
theorem d_AModel_988 : decode prog_13_method_1_code 988 = .ok (.iconst 0, 1) := by decide +kernel
theorem d_AModel_989 : decode prog_13_method_1_code 989 = .ok (.iastore, 1) := by decide +kernel
theorem d_AModel_990 : decode prog_13_method_1_code 990 = .ok (.dup, 1) := by decide +kernel
theorem d_AModel_991 : decode prog_13_method_1_code 991 = .ok (.bipush 9, 2) := by decide +kernel
theorem d_AModel_993 : decode prog_13_method_1_code 993 = .ok (.iconst 0, 1) := by decide +kernel
theorem d_AModel_994 : decode prog_13_method_1_code 994 = .ok (.iastore, 1) := by decide +kernel
theorem d_AModel_995 : decode prog_13_method_1_code 995 = .ok (.putfield 136, 3) := by decide +kernel
theorem d_AModel_998 : decode prog_13_method_1_code 998 = .ok (.aload_n 0, 1) := by decide +kernel
theorem d_AModel_999 : decode prog_13_method_1_code 999 = .ok (.sipush 300, 3) := by decide +kernel
theorem d_AModel_1002 : decode prog_13_method_1_code 1002 = .ok (.newarray .int, 2) := by decide +kernel
theorem d_AModel_1004 : decode prog_13_method_1_code 1004 = .ok (.putfield 139, 3) := by decide +kernel
theorem d_AModel_1007 : decode prog_13_method_1_code 1007 = .ok (.aload_n 0, 1) := by decide +kernel
theorem d_AModel_1008 : decode prog_13_method_1_code 1008 = .ok (.sipush 6140, 3) := by decide +kernel
theorem d_AModel_1011 : decode prog_13_method_1_code 1011 = .ok (.newarray .int, 2) := by decide +kernel
theorem d_AModel_1013 : decode prog_13_method_1_code 1013 = .ok (.putfield 142, 3) := by decide +kernel
theorem d_AModel_1016 : decode prog_13_method_1_code 1016 = .ok (.aload_n 0, 1) := by decide +kernel
theorem d_AModel_1017 : decode prog_13_method_1_code 1017 = .ok (.lconst 1, 1) := by decide +kernel
theorem d_AModel_1018 : decode prog_13_method_1_code 1018 = .ok (.putfield 145, 3) := by decide +kernel
theorem d_AModel_1021 : decode prog_13_method_1_code 1021 = .ok (.aload_n 0, 1) := by decide +kernel
theorem d_AModel_1022 : decode prog_13_method_1_code 1022 = .ok (.iconst 4, 1) := by decide +kernel
theorem d_AModel_1023 : decode prog_13_method_1_code 1023 = .ok (.newarray .int, 2) := by decide +kernel
theorem d_AModel_1025 : decode prog_13_method_1_code 1025 = .ok (.putfield 149, 3) := by decide +kernel
theorem d_AModel_1028 : decode prog_13_method_1_code 1028 = .ok (.aload_n 0, 1) := by decide +kernel
theorem d_AModel_1029 : decode prog_13_method_1_code 1029 = .ok (.bipush 10, 2) := by decide +kernel
theorem d_AModel_1031 : decode prog_13_method_1_code 1031 = .ok (.newarray .int, 2) := by decide +kernel
theorem d_AModel_1033 : decode prog_13_method_1_code 1033 = .ok (.putfield 152, 3) := by decide +kernel
theorem d_AModel_1036 : decode prog_13_method_1_code 1036 = .ok (.return_, 1) := by decide +kernel
theorem cv_AModel : CalI y_AModel prog_13_method_1_code 1 := ⟨⟨k1092, k115, (by decide +kernel), (by decide)⟩, k1091, rfl⟩
theorem chr_0 : (upd (upd (upd (upd (fun _ => 0) (0 : Int32).toNatClampNeg 109) (1 : Int32).toNatClampNeg 97) (2 : Int32).toNatClampNeg 114) (3 : Int32).toNatClampNeg 107) = wchr 0 := by
  funext i
  by_cases hi : i < 4
  · have h : ∀ i, i < 4 → (upd (upd (upd (upd (fun _ => 0) (0 : Int32).toNatClampNeg 109) (1 : Int32).toNatClampNeg 97) (2 : Int32).toNatClampNeg 114) (3 : Int32).toNatClampNeg 107) i = wchr 0 i := by decide +kernel
    exact h i hi
  · have h1 : (upd (upd (upd (upd (fun _ => 0) (0 : Int32).toNatClampNeg 109) (1 : Int32).toNatClampNeg 97) (2 : Int32).toNatClampNeg 114) (3 : Int32).toNatClampNeg 107) i = 0 := by
      show (if i = 3 then 107 else if i = 2 then 114 else if i = 1 then 97 else if i = 0 then 109 else 0) = (0 : Int32)
      rw [if_neg (by omega), if_neg (by omega), if_neg (by omega), if_neg (by omega)]
    rw [h1]
    have h2 : wchr 0 i = ((wtab.getD 0 [])[i]?).getD 0 := List.getD_eq_getElem?_getD
    rw [h2, List.getElem?_eq_none (by show 4 ≤ i; omega)]
    rfl
theorem chr_1 : (upd (upd (fun _ => 0) (0 : Int32).toNatClampNeg 97) (1 : Int32).toNatClampNeg 116) = wchr 1 := by
  funext i
  by_cases hi : i < 2
  · have h : ∀ i, i < 2 → (upd (upd (fun _ => 0) (0 : Int32).toNatClampNeg 97) (1 : Int32).toNatClampNeg 116) i = wchr 1 i := by decide +kernel
    exact h i hi
  · have h1 : (upd (upd (fun _ => 0) (0 : Int32).toNatClampNeg 97) (1 : Int32).toNatClampNeg 116) i = 0 := by
      show (if i = 1 then 116 else if i = 0 then 97 else 0) = (0 : Int32)
      rw [if_neg (by omega), if_neg (by omega)]
    rw [h1]
    have h2 : wchr 1 i = ((wtab.getD 1 [])[i]?).getD 0 := List.getD_eq_getElem?_getD
    rw [h2, List.getElem?_eq_none (by show 2 ≤ i; omega)]
    rfl
theorem chr_2 : (upd (upd (upd (upd (upd (fun _ => 0) (0 : Int32).toNatClampNeg 116) (1 : Int32).toNatClampNeg 114) (2 : Int32).toNatClampNeg 105) (3 : Int32).toNatClampNeg 101) (4 : Int32).toNatClampNeg 114) = wchr 2 := by
  funext i
  by_cases hi : i < 5
  · have h : ∀ i, i < 5 → (upd (upd (upd (upd (upd (fun _ => 0) (0 : Int32).toNatClampNeg 116) (1 : Int32).toNatClampNeg 114) (2 : Int32).toNatClampNeg 105) (3 : Int32).toNatClampNeg 101) (4 : Int32).toNatClampNeg 114) i = wchr 2 i := by decide +kernel
    exact h i hi
  · have h1 : (upd (upd (upd (upd (upd (fun _ => 0) (0 : Int32).toNatClampNeg 116) (1 : Int32).toNatClampNeg 114) (2 : Int32).toNatClampNeg 105) (3 : Int32).toNatClampNeg 101) (4 : Int32).toNatClampNeg 114) i = 0 := by
      show (if i = 4 then 114 else if i = 3 then 101 else if i = 2 then 105 else if i = 1 then 114 else if i = 0 then 116 else 0) = (0 : Int32)
      rw [if_neg (by omega), if_neg (by omega), if_neg (by omega), if_neg (by omega), if_neg (by omega)]
    rw [h1]
    have h2 : wchr 2 i = ((wtab.getD 2 [])[i]?).getD 0 := List.getD_eq_getElem?_getD
    rw [h2, List.getElem?_eq_none (by show 5 ≤ i; omega)]
    rfl
theorem chr_3 : (upd (upd (upd (upd (upd (fun _ => 0) (0 : Int32).toNatClampNeg 102) (1 : Int32).toNatClampNeg 111) (2 : Int32).toNatClampNeg 114) (3 : Int32).toNatClampNeg 99) (4 : Int32).toNatClampNeg 101) = wchr 3 := by
  funext i
  by_cases hi : i < 5
  · have h : ∀ i, i < 5 → (upd (upd (upd (upd (upd (fun _ => 0) (0 : Int32).toNatClampNeg 102) (1 : Int32).toNatClampNeg 111) (2 : Int32).toNatClampNeg 114) (3 : Int32).toNatClampNeg 99) (4 : Int32).toNatClampNeg 101) i = wchr 3 i := by decide +kernel
    exact h i hi
  · have h1 : (upd (upd (upd (upd (upd (fun _ => 0) (0 : Int32).toNatClampNeg 102) (1 : Int32).toNatClampNeg 111) (2 : Int32).toNatClampNeg 114) (3 : Int32).toNatClampNeg 99) (4 : Int32).toNatClampNeg 101) i = 0 := by
      show (if i = 4 then 101 else if i = 3 then 99 else if i = 2 then 114 else if i = 1 then 111 else if i = 0 then 102 else 0) = (0 : Int32)
      rw [if_neg (by omega), if_neg (by omega), if_neg (by omega), if_neg (by omega), if_neg (by omega)]
    rw [h1]
    have h2 : wchr 3 i = ((wtab.getD 3 [])[i]?).getD 0 := List.getD_eq_getElem?_getD
    rw [h2, List.getElem?_eq_none (by show 5 ≤ i; omega)]
    rfl
theorem chr_4 : (upd (upd (upd (fun _ => 0) (0 : Int32).toNatClampNeg 97) (1 : Int32).toNatClampNeg 105) (2 : Int32).toNatClampNeg 109) = wchr 4 := by
  funext i
  by_cases hi : i < 3
  · have h : ∀ i, i < 3 → (upd (upd (upd (fun _ => 0) (0 : Int32).toNatClampNeg 97) (1 : Int32).toNatClampNeg 105) (2 : Int32).toNatClampNeg 109) i = wchr 4 i := by decide +kernel
    exact h i hi
  · have h1 : (upd (upd (upd (fun _ => 0) (0 : Int32).toNatClampNeg 97) (1 : Int32).toNatClampNeg 105) (2 : Int32).toNatClampNeg 109) i = 0 := by
      show (if i = 2 then 109 else if i = 1 then 105 else if i = 0 then 97 else 0) = (0 : Int32)
      rw [if_neg (by omega), if_neg (by omega), if_neg (by omega)]
    rw [h1]
    have h2 : wchr 4 i = ((wtab.getD 4 [])[i]?).getD 0 := List.getD_eq_getElem?_getD
    rw [h2, List.getElem?_eq_none (by show 3 ≤ i; omega)]
    rfl
theorem chr_5 : (upd (upd (upd (upd (upd (fun _ => 0) (0 : Int32).toNatClampNeg 116) (1 : Int32).toNatClampNeg 105) (2 : Int32).toNatClampNeg 114) (3 : Int32).toNatClampNeg 101) (4 : Int32).toNatClampNeg 115) = wchr 5 := by
  funext i
  by_cases hi : i < 5
  · have h : ∀ i, i < 5 → (upd (upd (upd (upd (upd (fun _ => 0) (0 : Int32).toNatClampNeg 116) (1 : Int32).toNatClampNeg 105) (2 : Int32).toNatClampNeg 114) (3 : Int32).toNatClampNeg 101) (4 : Int32).toNatClampNeg 115) i = wchr 5 i := by decide +kernel
    exact h i hi
  · have h1 : (upd (upd (upd (upd (upd (fun _ => 0) (0 : Int32).toNatClampNeg 116) (1 : Int32).toNatClampNeg 105) (2 : Int32).toNatClampNeg 114) (3 : Int32).toNatClampNeg 101) (4 : Int32).toNatClampNeg 115) i = 0 := by
      show (if i = 4 then 115 else if i = 3 then 101 else if i = 2 then 114 else if i = 1 then 105 else if i = 0 then 116 else 0) = (0 : Int32)
      rw [if_neg (by omega), if_neg (by omega), if_neg (by omega), if_neg (by omega), if_neg (by omega)]
    rw [h1]
    have h2 : wchr 5 i = ((wtab.getD 5 [])[i]?).getD 0 := List.getD_eq_getElem?_getD
    rw [h2, List.getElem?_eq_none (by show 5 ≤ i; omega)]
    rfl
theorem chr_6 : (upd (upd (upd (upd (upd (fun _ => 0) (0 : Int32).toNatClampNeg 99) (1 : Int32).toNatClampNeg 111) (2 : Int32).toNatClampNeg 105) (3 : Int32).toNatClampNeg 110) (4 : Int32).toNatClampNeg 115) = wchr 6 := by
  funext i
  by_cases hi : i < 5
  · have h : ∀ i, i < 5 → (upd (upd (upd (upd (upd (fun _ => 0) (0 : Int32).toNatClampNeg 99) (1 : Int32).toNatClampNeg 111) (2 : Int32).toNatClampNeg 105) (3 : Int32).toNatClampNeg 110) (4 : Int32).toNatClampNeg 115) i = wchr 6 i := by decide +kernel
    exact h i hi
  · have h1 : (upd (upd (upd (upd (upd (fun _ => 0) (0 : Int32).toNatClampNeg 99) (1 : Int32).toNatClampNeg 111) (2 : Int32).toNatClampNeg 105) (3 : Int32).toNatClampNeg 110) (4 : Int32).toNatClampNeg 115) i = 0 := by
      show (if i = 4 then 115 else if i = 3 then 110 else if i = 2 then 105 else if i = 1 then 111 else if i = 0 then 99 else 0) = (0 : Int32)
      rw [if_neg (by omega), if_neg (by omega), if_neg (by omega), if_neg (by omega), if_neg (by omega)]
    rw [h1]
    have h2 : wchr 6 i = ((wtab.getD 6 [])[i]?).getD 0 := List.getD_eq_getElem?_getD
    rw [h2, List.getElem?_eq_none (by show 5 ≤ i; omega)]
    rfl
theorem chr_7 : (upd (upd (upd (upd (upd (fun _ => 0) (0 : Int32).toNatClampNeg 115) (1 : Int32).toNatClampNeg 116) (2 : Int32).toNatClampNeg 97) (3 : Int32).toNatClampNeg 121) (4 : Int32).toNatClampNeg 115) = wchr 7 := by
  funext i
  by_cases hi : i < 5
  · have h : ∀ i, i < 5 → (upd (upd (upd (upd (upd (fun _ => 0) (0 : Int32).toNatClampNeg 115) (1 : Int32).toNatClampNeg 116) (2 : Int32).toNatClampNeg 97) (3 : Int32).toNatClampNeg 121) (4 : Int32).toNatClampNeg 115) i = wchr 7 i := by decide +kernel
    exact h i hi
  · have h1 : (upd (upd (upd (upd (upd (fun _ => 0) (0 : Int32).toNatClampNeg 115) (1 : Int32).toNatClampNeg 116) (2 : Int32).toNatClampNeg 97) (3 : Int32).toNatClampNeg 121) (4 : Int32).toNatClampNeg 115) i = 0 := by
      show (if i = 4 then 115 else if i = 3 then 121 else if i = 2 then 97 else if i = 1 then 116 else if i = 0 then 115 else 0) = (0 : Int32)
      rw [if_neg (by omega), if_neg (by omega), if_neg (by omega), if_neg (by omega), if_neg (by omega)]
    rw [h1]
    have h2 : wchr 7 i = ((wtab.getD 7 [])[i]?).getD 0 := List.getD_eq_getElem?_getD
    rw [h2, List.getElem?_eq_none (by show 5 ≤ i; omega)]
    rfl
theorem chr_8 : (upd (upd (upd (upd (fun _ => 0) (0 : Int32).toNatClampNeg 108) (1 : Int32).toNatClampNeg 97) (2 : Int32).toNatClampNeg 100) (3 : Int32).toNatClampNeg 121) = wchr 8 := by
  funext i
  by_cases hi : i < 4
  · have h : ∀ i, i < 4 → (upd (upd (upd (upd (fun _ => 0) (0 : Int32).toNatClampNeg 108) (1 : Int32).toNatClampNeg 97) (2 : Int32).toNatClampNeg 100) (3 : Int32).toNatClampNeg 121) i = wchr 8 i := by decide +kernel
    exact h i hi
  · have h1 : (upd (upd (upd (upd (fun _ => 0) (0 : Int32).toNatClampNeg 108) (1 : Int32).toNatClampNeg 97) (2 : Int32).toNatClampNeg 100) (3 : Int32).toNatClampNeg 121) i = 0 := by
      show (if i = 3 then 121 else if i = 2 then 100 else if i = 1 then 97 else if i = 0 then 108 else 0) = (0 : Int32)
      rw [if_neg (by omega), if_neg (by omega), if_neg (by omega), if_neg (by omega)]
    rw [h1]
    have h2 : wchr 8 i = ((wtab.getD 8 [])[i]?).getD 0 := List.getD_eq_getElem?_getD
    rw [h2, List.getElem?_eq_none (by show 4 ≤ i; omega)]
    rfl
theorem chr_9 : (upd (upd (upd (upd (fun _ => 0) (0 : Int32).toNatClampNeg 108) (1 : Int32).toNatClampNeg 101) (2 : Int32).toNatClampNeg 97) (3 : Int32).toNatClampNeg 110) = wchr 9 := by
  funext i
  by_cases hi : i < 4
  · have h : ∀ i, i < 4 → (upd (upd (upd (upd (fun _ => 0) (0 : Int32).toNatClampNeg 108) (1 : Int32).toNatClampNeg 101) (2 : Int32).toNatClampNeg 97) (3 : Int32).toNatClampNeg 110) i = wchr 9 i := by decide +kernel
    exact h i hi
  · have h1 : (upd (upd (upd (upd (fun _ => 0) (0 : Int32).toNatClampNeg 108) (1 : Int32).toNatClampNeg 101) (2 : Int32).toNatClampNeg 97) (3 : Int32).toNatClampNeg 110) i = 0 := by
      show (if i = 3 then 110 else if i = 2 then 97 else if i = 1 then 101 else if i = 0 then 108 else 0) = (0 : Int32)
      rw [if_neg (by omega), if_neg (by omega), if_neg (by omega), if_neg (by omega)]
    rw [h1]
    have h2 : wchr 9 i = ((wtab.getD 9 [])[i]?).getD 0 := List.getD_eq_getElem?_getD
    rw [h2, List.getElem?_eq_none (by show 4 ≤ i; omega)]
    rfl
theorem chr_10 : (upd (upd (upd (upd (fun _ => 0) (0 : Int32).toNatClampNeg 119) (1 : Int32).toNatClampNeg 104) (2 : Int32).toNatClampNeg 101) (3 : Int32).toNatClampNeg 110) = wchr 10 := by
  funext i
  by_cases hi : i < 4
  · have h : ∀ i, i < 4 → (upd (upd (upd (upd (fun _ => 0) (0 : Int32).toNatClampNeg 119) (1 : Int32).toNatClampNeg 104) (2 : Int32).toNatClampNeg 101) (3 : Int32).toNatClampNeg 110) i = wchr 10 i := by decide +kernel
    exact h i hi
  · have h1 : (upd (upd (upd (upd (fun _ => 0) (0 : Int32).toNatClampNeg 119) (1 : Int32).toNatClampNeg 104) (2 : Int32).toNatClampNeg 101) (3 : Int32).toNatClampNeg 110) i = 0 := by
      show (if i = 3 then 110 else if i = 2 then 101 else if i = 1 then 104 else if i = 0 then 119 else 0) = (0 : Int32)
      rw [if_neg (by omega), if_neg (by omega), if_neg (by omega), if_neg (by omega)]
    rw [h1]
    have h2 : wchr 10 i = ((wtab.getD 10 [])[i]?).getD 0 := List.getD_eq_getElem?_getD
    rw [h2, List.getElem?_eq_none (by show 4 ≤ i; omega)]
    rfl
theorem chr_11 : (upd (upd (upd (upd (fun _ => 0) (0 : Int32).toNatClampNeg 98) (1 : Int32).toNatClampNeg 101) (2 : Int32).toNatClampNeg 108) (3 : Int32).toNatClampNeg 108) = wchr 11 := by
  funext i
  by_cases hi : i < 4
  · have h : ∀ i, i < 4 → (upd (upd (upd (upd (fun _ => 0) (0 : Int32).toNatClampNeg 98) (1 : Int32).toNatClampNeg 101) (2 : Int32).toNatClampNeg 108) (3 : Int32).toNatClampNeg 108) i = wchr 11 i := by decide +kernel
    exact h i hi
  · have h1 : (upd (upd (upd (upd (fun _ => 0) (0 : Int32).toNatClampNeg 98) (1 : Int32).toNatClampNeg 101) (2 : Int32).toNatClampNeg 108) (3 : Int32).toNatClampNeg 108) i = 0 := by
      show (if i = 3 then 108 else if i = 2 then 108 else if i = 1 then 101 else if i = 0 then 98 else 0) = (0 : Int32)
      rw [if_neg (by omega), if_neg (by omega), if_neg (by omega), if_neg (by omega)]
    rw [h1]
    have h2 : wchr 11 i = ((wtab.getD 11 [])[i]?).getD 0 := List.getD_eq_getElem?_getD
    rw [h2, List.getElem?_eq_none (by show 4 ≤ i; omega)]
    rfl
theorem chr_12 : (upd (upd (upd (upd (upd (fun _ => 0) (0 : Int32).toNatClampNeg 112) (1 : Int32).toNatClampNeg 114) (2 : Int32).toNatClampNeg 105) (3 : Int32).toNatClampNeg 99) (4 : Int32).toNatClampNeg 101) = wchr 12 := by
  funext i
  by_cases hi : i < 5
  · have h : ∀ i, i < 5 → (upd (upd (upd (upd (upd (fun _ => 0) (0 : Int32).toNatClampNeg 112) (1 : Int32).toNatClampNeg 114) (2 : Int32).toNatClampNeg 105) (3 : Int32).toNatClampNeg 99) (4 : Int32).toNatClampNeg 101) i = wchr 12 i := by decide +kernel
    exact h i hi
  · have h1 : (upd (upd (upd (upd (upd (fun _ => 0) (0 : Int32).toNatClampNeg 112) (1 : Int32).toNatClampNeg 114) (2 : Int32).toNatClampNeg 105) (3 : Int32).toNatClampNeg 99) (4 : Int32).toNatClampNeg 101) i = 0 := by
      show (if i = 4 then 101 else if i = 3 then 99 else if i = 2 then 105 else if i = 1 then 114 else if i = 0 then 112 else 0) = (0 : Int32)
      rw [if_neg (by omega), if_neg (by omega), if_neg (by omega), if_neg (by omega), if_neg (by omega)]
    rw [h1]
    have h2 : wchr 12 i = ((wtab.getD 12 [])[i]?).getD 0 := List.getD_eq_getElem?_getD
    rw [h2, List.getElem?_eq_none (by show 5 ≤ i; omega)]
    rfl
theorem chr_13 : (upd (upd (upd (upd (upd (fun _ => 0) (0 : Int32).toNatClampNeg 116) (1 : Int32).toNatClampNeg 114) (2 : Int32).toNatClampNeg 105) (3 : Int32).toNatClampNeg 101) (4 : Int32).toNatClampNeg 115) = wchr 13 := by
  funext i
  by_cases hi : i < 5
  · have h : ∀ i, i < 5 → (upd (upd (upd (upd (upd (fun _ => 0) (0 : Int32).toNatClampNeg 116) (1 : Int32).toNatClampNeg 114) (2 : Int32).toNatClampNeg 105) (3 : Int32).toNatClampNeg 101) (4 : Int32).toNatClampNeg 115) i = wchr 13 i := by decide +kernel
    exact h i hi
  · have h1 : (upd (upd (upd (upd (upd (fun _ => 0) (0 : Int32).toNatClampNeg 116) (1 : Int32).toNatClampNeg 114) (2 : Int32).toNatClampNeg 105) (3 : Int32).toNatClampNeg 101) (4 : Int32).toNatClampNeg 115) i = 0 := by
      show (if i = 4 then 115 else if i = 3 then 101 else if i = 2 then 105 else if i = 1 then 114 else if i = 0 then 116 else 0) = (0 : Int32)
      rw [if_neg (by omega), if_neg (by omega), if_neg (by omega), if_neg (by omega), if_neg (by omega)]
    rw [h1]
    have h2 : wchr 13 i = ((wtab.getD 13 [])[i]?).getD 0 := List.getD_eq_getElem?_getD
    rw [h2, List.getElem?_eq_none (by show 5 ≤ i; omega)]
    rfl
theorem chr_14 : (upd (upd (upd (upd (upd (fun _ => 0) (0 : Int32).toNatClampNeg 115) (1 : Int32).toNatClampNeg 108) (2 : Int32).toNatClampNeg 97) (3 : Int32).toNatClampNeg 99) (4 : Int32).toNatClampNeg 107) = wchr 14 := by
  funext i
  by_cases hi : i < 5
  · have h : ∀ i, i < 5 → (upd (upd (upd (upd (upd (fun _ => 0) (0 : Int32).toNatClampNeg 115) (1 : Int32).toNatClampNeg 108) (2 : Int32).toNatClampNeg 97) (3 : Int32).toNatClampNeg 99) (4 : Int32).toNatClampNeg 107) i = wchr 14 i := by decide +kernel
    exact h i hi
  · have h1 : (upd (upd (upd (upd (upd (fun _ => 0) (0 : Int32).toNatClampNeg 115) (1 : Int32).toNatClampNeg 108) (2 : Int32).toNatClampNeg 97) (3 : Int32).toNatClampNeg 99) (4 : Int32).toNatClampNeg 107) i = 0 := by
      show (if i = 4 then 107 else if i = 3 then 99 else if i = 2 then 97 else if i = 1 then 108 else if i = 0 then 115 else 0) = (0 : Int32)
      rw [if_neg (by omega), if_neg (by omega), if_neg (by omega), if_neg (by omega), if_neg (by omega)]
    rw [h1]
    have h2 : wchr 14 i = ((wtab.getD 14 [])[i]?).getD 0 := List.getD_eq_getElem?_getD
    rw [h2, List.getElem?_eq_none (by show 5 ≤ i; omega)]
    rfl
theorem chr_15 : (upd (upd (upd (upd (upd (fun _ => 0) (0 : Int32).toNatClampNeg 99) (1 : Int32).toNatClampNeg 114) (2 : Int32).toNatClampNeg 111) (3 : Int32).toNatClampNeg 119) (4 : Int32).toNatClampNeg 100) = wchr 15 := by
  funext i
  by_cases hi : i < 5
  · have h : ∀ i, i < 5 → (upd (upd (upd (upd (upd (fun _ => 0) (0 : Int32).toNatClampNeg 99) (1 : Int32).toNatClampNeg 114) (2 : Int32).toNatClampNeg 111) (3 : Int32).toNatClampNeg 119) (4 : Int32).toNatClampNeg 100) i = wchr 15 i := by decide +kernel
    exact h i hi
  · have h1 : (upd (upd (upd (upd (upd (fun _ => 0) (0 : Int32).toNatClampNeg 99) (1 : Int32).toNatClampNeg 114) (2 : Int32).toNatClampNeg 111) (3 : Int32).toNatClampNeg 119) (4 : Int32).toNatClampNeg 100) i = 0 := by
      show (if i = 4 then 100 else if i = 3 then 119 else if i = 2 then 111 else if i = 1 then 114 else if i = 0 then 99 else 0) = (0 : Int32)
      rw [if_neg (by omega), if_neg (by omega), if_neg (by omega), if_neg (by omega), if_neg (by omega)]
    rw [h1]
    have h2 : wchr 15 i = ((wtab.getD 15 [])[i]?).getD 0 := List.getD_eq_getElem?_getD
    rw [h2, List.getElem?_eq_none (by show 5 ≤ i; omega)]
    rfl
theorem chr_16 : (upd (upd (upd (upd (fun _ => 0) (0 : Int32).toNatClampNeg 110) (1 : Int32).toNatClampNeg 101) (2 : Int32).toNatClampNeg 97) (3 : Int32).toNatClampNeg 114) = wchr 16 := by
  funext i
  by_cases hi : i < 4
  · have h : ∀ i, i < 4 → (upd (upd (upd (upd (fun _ => 0) (0 : Int32).toNatClampNeg 110) (1 : Int32).toNatClampNeg 101) (2 : Int32).toNatClampNeg 97) (3 : Int32).toNatClampNeg 114) i = wchr 16 i := by decide +kernel
    exact h i hi
  · have h1 : (upd (upd (upd (upd (fun _ => 0) (0 : Int32).toNatClampNeg 110) (1 : Int32).toNatClampNeg 101) (2 : Int32).toNatClampNeg 97) (3 : Int32).toNatClampNeg 114) i = 0 := by
      show (if i = 3 then 114 else if i = 2 then 97 else if i = 1 then 101 else if i = 0 then 110 else 0) = (0 : Int32)
      rw [if_neg (by omega), if_neg (by omega), if_neg (by omega), if_neg (by omega)]
    rw [h1]
    have h2 : wchr 16 i = ((wtab.getD 16 [])[i]?).getD 0 := List.getD_eq_getElem?_getD
    rw [h2, List.getElem?_eq_none (by show 4 ≤ i; omega)]
    rfl
theorem chr_17 : (upd (upd (upd (upd (upd (fun _ => 0) (0 : Int32).toNatClampNeg 99) (1 : Int32).toNatClampNeg 111) (2 : Int32).toNatClampNeg 109) (3 : Int32).toNatClampNeg 101) (4 : Int32).toNatClampNeg 115) = wchr 17 := by
  funext i
  by_cases hi : i < 5
  · have h : ∀ i, i < 5 → (upd (upd (upd (upd (upd (fun _ => 0) (0 : Int32).toNatClampNeg 99) (1 : Int32).toNatClampNeg 111) (2 : Int32).toNatClampNeg 109) (3 : Int32).toNatClampNeg 101) (4 : Int32).toNatClampNeg 115) i = wchr 17 i := by decide +kernel
    exact h i hi
  · have h1 : (upd (upd (upd (upd (upd (fun _ => 0) (0 : Int32).toNatClampNeg 99) (1 : Int32).toNatClampNeg 111) (2 : Int32).toNatClampNeg 109) (3 : Int32).toNatClampNeg 101) (4 : Int32).toNatClampNeg 115) i = 0 := by
      show (if i = 4 then 115 else if i = 3 then 101 else if i = 2 then 109 else if i = 1 then 111 else if i = 0 then 99 else 0) = (0 : Int32)
      rw [if_neg (by omega), if_neg (by omega), if_neg (by omega), if_neg (by omega), if_neg (by omega)]
    rw [h1]
    have h2 : wchr 17 i = ((wtab.getD 17 [])[i]?).getD 0 := List.getD_eq_getElem?_getD
    rw [h2, List.getElem?_eq_none (by show 5 ≤ i; omega)]
    rfl
theorem chr_18 : (upd (upd (upd (upd (upd (fun _ => 0) (0 : Int32).toNatClampNeg 116) (1 : Int32).toNatClampNeg 114) (2 : Int32).toNatClampNeg 105) (3 : Int32).toNatClampNeg 101) (4 : Int32).toNatClampNeg 100) = wchr 18 := by
  funext i
  by_cases hi : i < 5
  · have h : ∀ i, i < 5 → (upd (upd (upd (upd (upd (fun _ => 0) (0 : Int32).toNatClampNeg 116) (1 : Int32).toNatClampNeg 114) (2 : Int32).toNatClampNeg 105) (3 : Int32).toNatClampNeg 101) (4 : Int32).toNatClampNeg 100) i = wchr 18 i := by decide +kernel
    exact h i hi
  · have h1 : (upd (upd (upd (upd (upd (fun _ => 0) (0 : Int32).toNatClampNeg 116) (1 : Int32).toNatClampNeg 114) (2 : Int32).toNatClampNeg 105) (3 : Int32).toNatClampNeg 101) (4 : Int32).toNatClampNeg 100) i = 0 := by
      show (if i = 4 then 100 else if i = 3 then 101 else if i = 2 then 105 else if i = 1 then 114 else if i = 0 then 116 else 0) = (0 : Int32)
      rw [if_neg (by omega), if_neg (by omega), if_neg (by omega), if_neg (by omega), if_neg (by omega)]
    rw [h1]
    have h2 : wchr 18 i = ((wtab.getD 18 [])[i]?).getD 0 := List.getD_eq_getElem?_getD
    rw [h2, List.getElem?_eq_none (by show 5 ≤ i; omega)]
    rfl
theorem chr_19 : (upd (upd (upd (upd (fun _ => 0) (0 : Int32).toNatClampNeg 108) (1 : Int32).toNatClampNeg 97) (2 : Int32).toNatClampNeg 115) (3 : Int32).toNatClampNeg 116) = wchr 19 := by
  funext i
  by_cases hi : i < 4
  · have h : ∀ i, i < 4 → (upd (upd (upd (upd (fun _ => 0) (0 : Int32).toNatClampNeg 108) (1 : Int32).toNatClampNeg 97) (2 : Int32).toNatClampNeg 115) (3 : Int32).toNatClampNeg 116) i = wchr 19 i := by decide +kernel
    exact h i hi
  · have h1 : (upd (upd (upd (upd (fun _ => 0) (0 : Int32).toNatClampNeg 108) (1 : Int32).toNatClampNeg 97) (2 : Int32).toNatClampNeg 115) (3 : Int32).toNatClampNeg 116) i = 0 := by
      show (if i = 3 then 116 else if i = 2 then 115 else if i = 1 then 97 else if i = 0 then 108 else 0) = (0 : Int32)
      rw [if_neg (by omega), if_neg (by omega), if_neg (by omega), if_neg (by omega)]
    rw [h1]
    have h2 : wchr 19 i = ((wtab.getD 19 [])[i]?).getD 0 := List.getD_eq_getElem?_getD
    rw [h2, List.getElem?_eq_none (by show 4 ≤ i; omega)]
    rfl
theorem chr_20 : (upd (upd (upd (upd (upd (fun _ => 0) (0 : Int32).toNatClampNeg 114) (1 : Int32).toNatClampNeg 105) (2 : Int32).toNatClampNeg 110) (3 : Int32).toNatClampNeg 103) (4 : Int32).toNatClampNeg 115) = wchr 20 := by
  funext i
  by_cases hi : i < 5
  · have h : ∀ i, i < 5 → (upd (upd (upd (upd (upd (fun _ => 0) (0 : Int32).toNatClampNeg 114) (1 : Int32).toNatClampNeg 105) (2 : Int32).toNatClampNeg 110) (3 : Int32).toNatClampNeg 103) (4 : Int32).toNatClampNeg 115) i = wchr 20 i := by decide +kernel
    exact h i hi
  · have h1 : (upd (upd (upd (upd (upd (fun _ => 0) (0 : Int32).toNatClampNeg 114) (1 : Int32).toNatClampNeg 105) (2 : Int32).toNatClampNeg 110) (3 : Int32).toNatClampNeg 103) (4 : Int32).toNatClampNeg 115) i = 0 := by
      show (if i = 4 then 115 else if i = 3 then 103 else if i = 2 then 110 else if i = 1 then 105 else if i = 0 then 114 else 0) = (0 : Int32)
      rw [if_neg (by omega), if_neg (by omega), if_neg (by omega), if_neg (by omega), if_neg (by omega)]
    rw [h1]
    have h2 : wchr 20 i = ((wtab.getD 20 [])[i]?).getD 0 := List.getD_eq_getElem?_getD
    rw [h2, List.getElem?_eq_none (by show 5 ≤ i; omega)]
    rfl
theorem chr_21 : (upd (upd (fun _ => 0) (0 : Int32).toNatClampNeg 111) (1 : Int32).toNatClampNeg 114) = wchr 21 := by
  funext i
  by_cases hi : i < 2
  · have h : ∀ i, i < 2 → (upd (upd (fun _ => 0) (0 : Int32).toNatClampNeg 111) (1 : Int32).toNatClampNeg 114) i = wchr 21 i := by decide +kernel
    exact h i hi
  · have h1 : (upd (upd (fun _ => 0) (0 : Int32).toNatClampNeg 111) (1 : Int32).toNatClampNeg 114) i = 0 := by
      show (if i = 1 then 114 else if i = 0 then 111 else 0) = (0 : Int32)
      rw [if_neg (by omega), if_neg (by omega)]
    rw [h1]
    have h2 : wchr 21 i = ((wtab.getD 21 [])[i]?).getD 0 := List.getD_eq_getElem?_getD
    rw [h2, List.getElem?_eq_none (by show 2 ≤ i; omega)]
    rfl
theorem chr_22 : (upd (upd (upd (fun _ => 0) (0 : Int32).toNatClampNeg 97) (1 : Int32).toNatClampNeg 110) (2 : Int32).toNatClampNeg 100) = wchr 22 := by
  funext i
  by_cases hi : i < 3
  · have h : ∀ i, i < 3 → (upd (upd (upd (fun _ => 0) (0 : Int32).toNatClampNeg 97) (1 : Int32).toNatClampNeg 110) (2 : Int32).toNatClampNeg 100) i = wchr 22 i := by decide +kernel
    exact h i hi
  · have h1 : (upd (upd (upd (fun _ => 0) (0 : Int32).toNatClampNeg 97) (1 : Int32).toNatClampNeg 110) (2 : Int32).toNatClampNeg 100) i = 0 := by
      show (if i = 2 then 100 else if i = 1 then 110 else if i = 0 then 97 else 0) = (0 : Int32)
      rw [if_neg (by omega), if_neg (by omega), if_neg (by omega)]
    rw [h1]
    have h2 : wchr 22 i = ((wtab.getD 22 [])[i]?).getD 0 := List.getD_eq_getElem?_getD
    rw [h2, List.getElem?_eq_none (by show 3 ≤ i; omega)]
    rfl
theorem chr_23 : (upd (upd (upd (fun _ => 0) (0 : Int32).toNatClampNeg 110) (1 : Int32).toNatClampNeg 111) (2 : Int32).toNatClampNeg 116) = wchr 23 := by
  funext i
  by_cases hi : i < 3
  · have h : ∀ i, i < 3 → (upd (upd (upd (fun _ => 0) (0 : Int32).toNatClampNeg 110) (1 : Int32).toNatClampNeg 111) (2 : Int32).toNatClampNeg 116) i = wchr 23 i := by decide +kernel
    exact h i hi
  · have h1 : (upd (upd (upd (fun _ => 0) (0 : Int32).toNatClampNeg 110) (1 : Int32).toNatClampNeg 111) (2 : Int32).toNatClampNeg 116) i = 0 := by
      show (if i = 2 then 116 else if i = 1 then 111 else if i = 0 then 110 else 0) = (0 : Int32)
      rw [if_neg (by omega), if_neg (by omega), if_neg (by omega)]
    rw [h1]
    have h2 : wchr 23 i = ((wtab.getD 23 [])[i]?).getD 0 := List.getD_eq_getElem?_getD
    rw [h2, List.getElem?_eq_none (by show 3 ≤ i; omega)]
    rfl
theorem chr_24 : (upd (upd (upd (fun _ => 0) (0 : Int32).toNatClampNeg 97) (1 : Int32).toNatClampNeg 108) (2 : Int32).toNatClampNeg 108) = wchr 24 := by
  funext i
  by_cases hi : i < 3
  · have h : ∀ i, i < 3 → (upd (upd (upd (fun _ => 0) (0 : Int32).toNatClampNeg 97) (1 : Int32).toNatClampNeg 108) (2 : Int32).toNatClampNeg 108) i = wchr 24 i := by decide +kernel
    exact h i hi
  · have h1 : (upd (upd (upd (fun _ => 0) (0 : Int32).toNatClampNeg 97) (1 : Int32).toNatClampNeg 108) (2 : Int32).toNatClampNeg 108) i = 0 := by
      show (if i = 2 then 108 else if i = 1 then 108 else if i = 0 then 97 else 0) = (0 : Int32)
      rw [if_neg (by omega), if_neg (by omega), if_neg (by omega)]
    rw [h1]
    have h2 : wchr 24 i = ((wtab.getD 24 [])[i]?).getD 0 := List.getD_eq_getElem?_getD
    rw [h2, List.getElem?_eq_none (by show 3 ≤ i; omega)]
    rfl
theorem chr_25 : (upd (upd (upd (fun _ => 0) (0 : Int32).toNatClampNeg 109) (1 : Int32).toNatClampNeg 105) (2 : Int32).toNatClampNeg 110) = wchr 25 := by
  funext i
  by_cases hi : i < 3
  · have h : ∀ i, i < 3 → (upd (upd (upd (fun _ => 0) (0 : Int32).toNatClampNeg 109) (1 : Int32).toNatClampNeg 105) (2 : Int32).toNatClampNeg 110) i = wchr 25 i := by decide +kernel
    exact h i hi
  · have h1 : (upd (upd (upd (fun _ => 0) (0 : Int32).toNatClampNeg 109) (1 : Int32).toNatClampNeg 105) (2 : Int32).toNatClampNeg 110) i = 0 := by
      show (if i = 2 then 110 else if i = 1 then 105 else if i = 0 then 109 else 0) = (0 : Int32)
      rw [if_neg (by omega), if_neg (by omega), if_neg (by omega)]
    rw [h1]
    have h2 : wchr 25 i = ((wtab.getD 25 [])[i]?).getD 0 := List.getD_eq_getElem?_getD
    rw [h2, List.getElem?_eq_none (by show 3 ≤ i; omega)]
    rfl
theorem chr_26 : (upd (upd (upd (fun _ => 0) (0 : Int32).toNatClampNeg 109) (1 : Int32).toNatClampNeg 97) (2 : Int32).toNatClampNeg 120) = wchr 26 := by
  funext i
  by_cases hi : i < 3
  · have h : ∀ i, i < 3 → (upd (upd (upd (fun _ => 0) (0 : Int32).toNatClampNeg 109) (1 : Int32).toNatClampNeg 97) (2 : Int32).toNatClampNeg 120) i = wchr 26 i := by decide +kernel
    exact h i hi
  · have h1 : (upd (upd (upd (fun _ => 0) (0 : Int32).toNatClampNeg 109) (1 : Int32).toNatClampNeg 97) (2 : Int32).toNatClampNeg 120) i = 0 := by
      show (if i = 2 then 120 else if i = 1 then 97 else if i = 0 then 109 else 0) = (0 : Int32)
      rw [if_neg (by omega), if_neg (by omega), if_neg (by omega)]
    rw [h1]
    have h2 : wchr 26 i = ((wtab.getD 26 [])[i]?).getD 0 := List.getD_eq_getElem?_getD
    rw [h2, List.getElem?_eq_none (by show 3 ≤ i; omega)]
    rfl
theorem Wl_congr {g : GX} {ws : va_W} {A : Nat → Prop} {s : State} {H : Heap} {locs : List Loc} {q N : Nat} {cA : ClassId} {f f2 : Nat → Int32} (h : Wl g (ws ++ [(q, .inl (cA, N, .inl f))]) A s H locs) (e : f = f2) : Wl g (ws ++ [(q, .inl (cA, N, .inl f2))]) A s H locs := by subst e; exact h
