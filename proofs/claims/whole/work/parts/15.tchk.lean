/-! ===== every method's table, checked by the kernel (by wip/gen/tchk.py) ===== -/
theorem ck_1 : chkT 1 = true := by decide +kernel
theorem ck_2 : chkT 2 = true := by decide +kernel
theorem ck_3 : chkT 3 = true := by decide +kernel
theorem ck_4 : chkT 4 = true := by decide +kernel
theorem ck_5 : chkT 5 = true := by decide +kernel
theorem ck_6 : chkT 6 = true := by decide +kernel
theorem ck_7 : chkT 7 = true := by decide +kernel
theorem ck_9 : chkT 9 = true := by decide +kernel
theorem ck_10 : chkT 10 = true := by decide +kernel
theorem ck_11 : chkT 11 = true := by decide +kernel
theorem ck_12 : chkT 12 = true := by decide +kernel
theorem ck_13 : chkT 13 = true := by decide +kernel
theorem ck_14 : chkT 14 = true := by decide +kernel
theorem ck_15 : chkT 15 = true := by decide +kernel
theorem ck_16 : chkT 16 = true := by decide +kernel
theorem ck_17 : chkT 17 = true := by decide +kernel
theorem ck_18 : chkT 18 = true := by decide +kernel
theorem ck_19 : chkT 19 = true := by decide +kernel
theorem ck_20 : chkT 20 = true := by decide +kernel
theorem ck_22 : chkT 22 = true := by decide +kernel
theorem ck_23 : chkT 23 = true := by decide +kernel
theorem ck_24 : chkT 24 = true := by decide +kernel
theorem ck_25 : chkT 25 = true := by decide +kernel
theorem ck_26 : chkT 26 = true := by decide +kernel
theorem ck_27 : chkT 27 = true := by decide +kernel
theorem ck_28 : chkT 28 = true := by decide +kernel
theorem ck_30 : chkT 30 = true := by decide +kernel
theorem ck_31 : chkT 31 = true := by decide +kernel
theorem ck_32 : chkT 32 = true := by decide +kernel
theorem ck_33 : chkT 33 = true := by decide +kernel
theorem ck_34 : chkT 34 = true := by decide +kernel
theorem ck_35 : chkT 35 = true := by decide +kernel
theorem ck_36 : chkT 36 = true := by decide +kernel
theorem ck_37 : chkT 37 = true := by decide +kernel
theorem ck_38 : chkT 38 = true := by decide +kernel
theorem ck_39 : chkT 39 = true := by decide +kernel
theorem ck_40 : chkT 40 = true := by decide +kernel
theorem ck_42 : chkT 42 = true := by decide +kernel
theorem ck_43 : chkT 43 = true := by decide +kernel
theorem ck_44 : chkT 44 = true := by decide +kernel
theorem ck_45 : chkT 45 = true := by decide +kernel
theorem ck_46 : chkT 46 = true := by decide +kernel
theorem ck_47 : chkT 47 = true := by decide +kernel
theorem ck_48 : chkT 48 = true := by decide +kernel
theorem ck_49 : chkT 49 = true := by decide +kernel
theorem ck_50 : chkT 50 = true := by decide +kernel
theorem ck_51 : chkT 51 = true := by decide +kernel
theorem ck_52 : chkT 52 = true := by decide +kernel
theorem ck_53 : chkT 53 = true := by decide +kernel
theorem ck_55 : chkT 55 = true := by decide +kernel
theorem ck_56 : chkT 56 = true := by decide +kernel
theorem ck_57 : chkT 57 = true := by decide +kernel
theorem ck_58 : chkT 58 = true := by decide +kernel
theorem ck_59 : chkT 59 = true := by decide +kernel
theorem ck_60 : chkT 60 = true := by decide +kernel
theorem ck_61 : chkT 61 = true := by decide +kernel
theorem ck_62 : chkT 62 = true := by decide +kernel
theorem ck_63 : chkT 63 = true := by decide +kernel
theorem ck_64 : chkT 64 = true := by decide +kernel
theorem ck_65 : chkT 65 = true := by decide +kernel
theorem ck_66 : chkT 66 = true := by decide +kernel
theorem ck_67 : chkT 67 = true := by decide +kernel
theorem ck_68 : chkT 68 = true := by decide +kernel
theorem ck_69 : chkT 69 = true := by decide +kernel
theorem ck_70 : chkT 70 = true := by decide +kernel
theorem ck_72 : chkT 72 = true := by decide +kernel
theorem ck_74 : chkT 74 = true := by decide +kernel
theorem ck_75 : chkT 75 = true := by decide +kernel
theorem ck_76 : chkT 76 = true := by decide +kernel
theorem ck_77 : chkT 77 = true := by decide +kernel
theorem ck_79 : chkT 79 = true := by decide +kernel
theorem ck_80 : chkT 80 = true := by decide +kernel
theorem ck_81 : chkT 81 = true := by decide +kernel
theorem ck_82 : chkT 82 = true := by decide +kernel
theorem ck_83 : chkT 83 = true := by decide +kernel
theorem ck_85 : chkT 85 = true := by decide +kernel
theorem ck_86 : chkT 86 = true := by decide +kernel
theorem ck_87 : chkT 87 = true := by decide +kernel
theorem ck_88 : chkT 88 = true := by decide +kernel
theorem ck_89 : chkT 89 = true := by decide +kernel
theorem ck_90 : chkT 90 = true := by decide +kernel
theorem ck_91 : chkT 91 = true := by decide +kernel
theorem ck_92 : chkT 92 = true := by decide +kernel
theorem ck_93 : chkT 93 = true := by decide +kernel
theorem ck_94 : chkT 94 = true := by decide +kernel
theorem ck_95 : chkT 95 = true := by decide +kernel
theorem ck_97 : chkT 97 = true := by decide +kernel
theorem ck_98 : chkT 98 = true := by decide +kernel
theorem ck_99 : chkT 99 = true := by decide +kernel
theorem ck_100 : chkT 100 = true := by decide +kernel
theorem ck_101 : chkT 101 = true := by decide +kernel
theorem ck_102 : chkT 102 = true := by decide +kernel
theorem ck_104 : chkT 104 = true := by decide +kernel
theorem ck_105 : chkT 105 = true := by decide +kernel
theorem ck_106 : chkT 106 = true := by decide +kernel
theorem ck_107 : chkT 107 = true := by decide +kernel
theorem ck_108 : chkT 108 = true := by decide +kernel
theorem ck_109 : chkT 109 = true := by decide +kernel
theorem ck_110 : chkT 110 = true := by decide +kernel
theorem ck_111 : chkT 111 = true := by decide +kernel
theorem ck_112 : chkT 112 = true := by decide +kernel
theorem ck_113 : chkT 113 = true := by decide +kernel
theorem ck_114 : chkT 114 = true := by decide +kernel
theorem ck_115 : chkT 115 = true := by decide +kernel
theorem ck_116 : chkT 116 = true := by decide +kernel
theorem ck_117 : chkT 117 = true := by decide +kernel
theorem ck_118 : chkT 118 = true := by decide +kernel
theorem ck_119 : chkT 119 = true := by decide +kernel
theorem ck_120 : chkT 120 = true := by decide +kernel
theorem ck_121 : chkT 121 = true := by decide +kernel
theorem ck_122 : chkT 122 = true := by decide +kernel
theorem ck_123 : chkT 123 = true := by decide +kernel
theorem ck_124 : chkT 124 = true := by decide +kernel
theorem ck_125 : chkT 125 = true := by decide +kernel
theorem ck_126 : chkT 126 = true := by decide +kernel
theorem ck_127 : chkT 127 = true := by decide +kernel
theorem ck_128 : chkT 128 = true := by decide +kernel
theorem ck_129 : chkT 129 = true := by decide +kernel
theorem ck_130 : chkT 130 = true := by decide +kernel
theorem ck_131 : chkT 131 = true := by decide +kernel
theorem ck_132 : chkT 132 = true := by decide +kernel
theorem ck_133 : chkT 133 = true := by decide +kernel
theorem ck_134 : chkT 134 = true := by decide +kernel
theorem ck_135 : chkT 135 = true := by decide +kernel
theorem ck_136 : chkT 136 = true := by decide +kernel
theorem ck_137 : chkT 137 = true := by decide +kernel
theorem ck_138 : chkT 138 = true := by decide +kernel
theorem ck_139 : chkT 139 = true := by decide +kernel
theorem ck_140 : chkT 140 = true := by decide +kernel
theorem ck_141 : chkT 141 = true := by decide +kernel
theorem ck_142 : chkT 142 = true := by decide +kernel
theorem ck_143 : chkT 143 = true := by decide +kernel
theorem ck_144 : chkT 144 = true := by decide +kernel
theorem ck_145 : chkT 145 = true := by decide +kernel
theorem ck_146 : chkT 146 = true := by decide +kernel
theorem ck_147 : chkT 147 = true := by decide +kernel
theorem ck_148 : chkT 148 = true := by decide +kernel
theorem ck_149 : chkT 149 = true := by decide +kernel
theorem ck_150 : chkT 150 = true := by decide +kernel
theorem ck_151 : chkT 151 = true := by decide +kernel
theorem ck_152 : chkT 152 = true := by decide +kernel
theorem ck_153 : chkT 153 = true := by decide +kernel
theorem ck_154 : chkT 154 = true := by decide +kernel
theorem ck_155 : chkT 155 = true := by decide +kernel
theorem ck_156 : chkT 156 = true := by decide +kernel
theorem ck_157 : chkT 157 = true := by decide +kernel
theorem ck_159 : chkT 159 = true := by decide +kernel
theorem ck_160 : chkT 160 = true := by decide +kernel
theorem ck_161 : chkT 161 = true := by decide +kernel
theorem ck_162 : chkT 162 = true := by decide +kernel
theorem ck_163 : chkT 163 = true := by decide +kernel
theorem ck_164 : chkT 164 = true := by decide +kernel
theorem ck_165 : chkT 165 = true := by decide +kernel
theorem ck_166 : chkT 166 = true := by decide +kernel
theorem ck_167 : chkT 167 = true := by decide +kernel
theorem ck_168 : chkT 168 = true := by decide +kernel
theorem ck_169 : chkT 169 = true := by decide +kernel
theorem ck_170 : chkT 170 = true := by decide +kernel
theorem ck_171 : chkT 171 = true := by decide +kernel
theorem ck_172 : chkT 172 = true := by decide +kernel
theorem ck_173 : chkT 173 = true := by decide +kernel
theorem ck_174 : chkT 174 = true := by decide +kernel
theorem ck_175 : chkT 175 = true := by decide +kernel
theorem ck_176 : chkT 176 = true := by decide +kernel
theorem ck_177 : chkT 177 = true := by decide +kernel
theorem ck_178 : chkT 178 = true := by decide +kernel
theorem ck_179 : chkT 179 = true := by decide +kernel
theorem ck_180 : chkT 180 = true := by decide +kernel
theorem ck_181 : chkT 181 = true := by decide +kernel
theorem ck_182 : chkT 182 = true := by decide +kernel
theorem ck_183 : chkT 183 = true := by decide +kernel
theorem ck_184 : chkT 184 = true := by decide +kernel
theorem ck_185 : chkT 185 = true := by decide +kernel
theorem ck_186 : chkT 186 = true := by decide +kernel
theorem ck_187 : chkT 187 = true := by decide +kernel
theorem ck_188 : chkT 188 = true := by decide +kernel
theorem ck_189 : chkT 189 = true := by decide +kernel
theorem ck_190 : chkT 190 = true := by decide +kernel
theorem ck_191 : chkT 191 = true := by decide +kernel
theorem ck_192 : chkT 192 = true := by decide +kernel
theorem ck_193 : chkT 193 = true := by decide +kernel
theorem ck_194 : chkT 194 = true := by decide +kernel
theorem ck_195 : chkT 195 = true := by decide +kernel
theorem ck_196 : chkT 196 = true := by decide +kernel
theorem ck_197 : chkT 197 = true := by decide +kernel
theorem ck_198 : chkT 198 = true := by decide +kernel
theorem ck_199 : chkT 199 = true := by decide +kernel
theorem ck_200 : chkT 200 = true := by decide +kernel
theorem ck_201 : chkT 201 = true := by decide +kernel
theorem ck_202 : chkT 202 = true := by decide +kernel
theorem ck_203 : chkT 203 = true := by decide +kernel
theorem ck_204 : chkT 204 = true := by decide +kernel
theorem ck_205 : chkT 205 = true := by decide +kernel
theorem ck_206 : chkT 206 = true := by decide +kernel
theorem ck_207 : chkT 207 = true := by decide +kernel
theorem ck_208 : chkT 208 = true := by decide +kernel
theorem ck_209 : chkT 209 = true := by decide +kernel
theorem ck_210 : chkT 210 = true := by decide +kernel
theorem ck_211 : chkT 211 = true := by decide +kernel
theorem ck_212 : chkT 212 = true := by decide +kernel
theorem ck_213 : chkT 213 = true := by decide +kernel
theorem ck_214 : chkT 214 = true := by decide +kernel
theorem ck_215 : chkT 215 = true := by decide +kernel
theorem ck_216 : chkT 216 = true := by decide +kernel
theorem ck_217 : chkT 217 = true := by decide +kernel
theorem ck_218 : chkT 218 = true := by decide +kernel
theorem ck_219 : chkT 219 = true := by decide +kernel
theorem ck_220 : chkT 220 = true := by decide +kernel
theorem ck_221 : chkT 221 = true := by decide +kernel
theorem ck_222 : chkT 222 = true := by decide +kernel
theorem ck_223 : chkT 223 = true := by decide +kernel
theorem ck_224 : chkT 224 = true := by decide +kernel
theorem ck_225 : chkT 225 = true := by decide +kernel
theorem ck_226 : chkT 226 = true := by decide +kernel
theorem ck_227 : chkT 227 = true := by decide +kernel
theorem ck_228 : chkT 228 = true := by decide +kernel
theorem ck_229 : chkT 229 = true := by decide +kernel
theorem ck_230 : chkT 230 = true := by decide +kernel
theorem ck_231 : chkT 231 = true := by decide +kernel
theorem ck_232 : chkT 232 = true := by decide +kernel
theorem ck_233 : chkT 233 = true := by decide +kernel
theorem ck_234 : chkT 234 = true := by decide +kernel
theorem ck_235 : chkT 235 = true := by decide +kernel
theorem ck_236 : chkT 236 = true := by decide +kernel
theorem ck_237 : chkT 237 = true := by decide +kernel
theorem ck_238 : chkT 238 = true := by decide +kernel
theorem ck_239 : chkT 239 = true := by decide +kernel
theorem ck_240 : chkT 240 = true := by decide +kernel
theorem ck_241 : chkT 241 = true := by decide +kernel
theorem ck_242 : chkT 242 = true := by decide +kernel
theorem ck_243 : chkT 243 = true := by decide +kernel
theorem ck_244 : chkT 244 = true := by decide +kernel
theorem ck_245 : chkT 245 = true := by decide +kernel
theorem ck_246 : chkT 246 = true := by decide +kernel
theorem ck_247 : chkT 247 = true := by decide +kernel
theorem ck_248 : chkT 248 = true := by decide +kernel
theorem ck_249 : chkT 249 = true := by decide +kernel
theorem ck_250 : chkT 250 = true := by decide +kernel
theorem ck_251 : chkT 251 = true := by decide +kernel
theorem ck_252 : chkT 252 = true := by decide +kernel
theorem ck_253 : chkT 253 = true := by decide +kernel
theorem ck_254 : chkT 254 = true := by decide +kernel
theorem ck_255 : chkT 255 = true := by decide +kernel
theorem ck_256 : chkT 256 = true := by decide +kernel
theorem ck_257 : chkT 257 = true := by decide +kernel
theorem ck_258 : chkT 258 = true := by decide +kernel
theorem ck_259 : chkT 259 = true := by decide +kernel
theorem ck_260 : chkT 260 = true := by decide +kernel
theorem ck_261 : chkT 261 = true := by decide +kernel
theorem ck_262 : chkT 262 = true := by decide +kernel
theorem ck_263 : chkT 263 = true := by decide +kernel
theorem ck_264 : chkT 264 = true := by decide +kernel
theorem ck_265 : chkT 265 = true := by decide +kernel
theorem ck_266 : chkT 266 = true := by decide +kernel
theorem ck_267 : chkT 267 = true := by decide +kernel
theorem ck_268 : chkT 268 = true := by decide +kernel
theorem ck_269 : chkT 269 = true := by decide +kernel
theorem ck_271 : chkT 271 = true := by decide +kernel
theorem ck_272 : chkT 272 = true := by decide +kernel
theorem ck_273 : chkT 273 = true := by decide +kernel
theorem ck_274 : chkT 274 = true := by decide +kernel
theorem ck_284 : chkT 284 = true := by decide +kernel
theorem ck_286 : chkT 286 = true := by decide +kernel
def ckl_0 : List Nat := [1, 2, 3, 4, 5, 6, 7, 9, 10, 11, 12, 13, 14, 15, 16, 17]
theorem cka_0 : ∀ y ∈ ckl_0, chkT y = true := List.forall_mem_cons.mpr ⟨ck_1, List.forall_mem_cons.mpr ⟨ck_2, List.forall_mem_cons.mpr ⟨ck_3, List.forall_mem_cons.mpr ⟨ck_4, List.forall_mem_cons.mpr ⟨ck_5, List.forall_mem_cons.mpr ⟨ck_6, List.forall_mem_cons.mpr ⟨ck_7, List.forall_mem_cons.mpr ⟨ck_9, List.forall_mem_cons.mpr ⟨ck_10, List.forall_mem_cons.mpr ⟨ck_11, List.forall_mem_cons.mpr ⟨ck_12, List.forall_mem_cons.mpr ⟨ck_13, List.forall_mem_cons.mpr ⟨ck_14, List.forall_mem_cons.mpr ⟨ck_15, List.forall_mem_cons.mpr ⟨ck_16, List.forall_mem_cons.mpr ⟨ck_17, fun _ h => absurd h List.not_mem_nil⟩⟩⟩⟩⟩⟩⟩⟩⟩⟩⟩⟩⟩⟩⟩⟩
def ckl_1 : List Nat := [18, 19, 20, 22, 23, 24, 25, 26, 27, 28, 30, 31, 32, 33, 34, 35]
theorem cka_1 : ∀ y ∈ ckl_1, chkT y = true := List.forall_mem_cons.mpr ⟨ck_18, List.forall_mem_cons.mpr ⟨ck_19, List.forall_mem_cons.mpr ⟨ck_20, List.forall_mem_cons.mpr ⟨ck_22, List.forall_mem_cons.mpr ⟨ck_23, List.forall_mem_cons.mpr ⟨ck_24, List.forall_mem_cons.mpr ⟨ck_25, List.forall_mem_cons.mpr ⟨ck_26, List.forall_mem_cons.mpr ⟨ck_27, List.forall_mem_cons.mpr ⟨ck_28, List.forall_mem_cons.mpr ⟨ck_30, List.forall_mem_cons.mpr ⟨ck_31, List.forall_mem_cons.mpr ⟨ck_32, List.forall_mem_cons.mpr ⟨ck_33, List.forall_mem_cons.mpr ⟨ck_34, List.forall_mem_cons.mpr ⟨ck_35, fun _ h => absurd h List.not_mem_nil⟩⟩⟩⟩⟩⟩⟩⟩⟩⟩⟩⟩⟩⟩⟩⟩
def ckl_2 : List Nat := [36, 37, 38, 39, 40, 42, 43, 44, 45, 46, 47, 48, 49, 50, 51, 52]
theorem cka_2 : ∀ y ∈ ckl_2, chkT y = true := List.forall_mem_cons.mpr ⟨ck_36, List.forall_mem_cons.mpr ⟨ck_37, List.forall_mem_cons.mpr ⟨ck_38, List.forall_mem_cons.mpr ⟨ck_39, List.forall_mem_cons.mpr ⟨ck_40, List.forall_mem_cons.mpr ⟨ck_42, List.forall_mem_cons.mpr ⟨ck_43, List.forall_mem_cons.mpr ⟨ck_44, List.forall_mem_cons.mpr ⟨ck_45, List.forall_mem_cons.mpr ⟨ck_46, List.forall_mem_cons.mpr ⟨ck_47, List.forall_mem_cons.mpr ⟨ck_48, List.forall_mem_cons.mpr ⟨ck_49, List.forall_mem_cons.mpr ⟨ck_50, List.forall_mem_cons.mpr ⟨ck_51, List.forall_mem_cons.mpr ⟨ck_52, fun _ h => absurd h List.not_mem_nil⟩⟩⟩⟩⟩⟩⟩⟩⟩⟩⟩⟩⟩⟩⟩⟩
def ckl_3 : List Nat := [53, 55, 56, 57, 58, 59, 60, 61, 62, 63, 64, 65, 66, 67, 68, 69]
theorem cka_3 : ∀ y ∈ ckl_3, chkT y = true := List.forall_mem_cons.mpr ⟨ck_53, List.forall_mem_cons.mpr ⟨ck_55, List.forall_mem_cons.mpr ⟨ck_56, List.forall_mem_cons.mpr ⟨ck_57, List.forall_mem_cons.mpr ⟨ck_58, List.forall_mem_cons.mpr ⟨ck_59, List.forall_mem_cons.mpr ⟨ck_60, List.forall_mem_cons.mpr ⟨ck_61, List.forall_mem_cons.mpr ⟨ck_62, List.forall_mem_cons.mpr ⟨ck_63, List.forall_mem_cons.mpr ⟨ck_64, List.forall_mem_cons.mpr ⟨ck_65, List.forall_mem_cons.mpr ⟨ck_66, List.forall_mem_cons.mpr ⟨ck_67, List.forall_mem_cons.mpr ⟨ck_68, List.forall_mem_cons.mpr ⟨ck_69, fun _ h => absurd h List.not_mem_nil⟩⟩⟩⟩⟩⟩⟩⟩⟩⟩⟩⟩⟩⟩⟩⟩
def ckl_4 : List Nat := [70, 72, 74, 75, 76, 77, 79, 80, 81, 82, 83, 85, 86, 87, 88, 89]
theorem cka_4 : ∀ y ∈ ckl_4, chkT y = true := List.forall_mem_cons.mpr ⟨ck_70, List.forall_mem_cons.mpr ⟨ck_72, List.forall_mem_cons.mpr ⟨ck_74, List.forall_mem_cons.mpr ⟨ck_75, List.forall_mem_cons.mpr ⟨ck_76, List.forall_mem_cons.mpr ⟨ck_77, List.forall_mem_cons.mpr ⟨ck_79, List.forall_mem_cons.mpr ⟨ck_80, List.forall_mem_cons.mpr ⟨ck_81, List.forall_mem_cons.mpr ⟨ck_82, List.forall_mem_cons.mpr ⟨ck_83, List.forall_mem_cons.mpr ⟨ck_85, List.forall_mem_cons.mpr ⟨ck_86, List.forall_mem_cons.mpr ⟨ck_87, List.forall_mem_cons.mpr ⟨ck_88, List.forall_mem_cons.mpr ⟨ck_89, fun _ h => absurd h List.not_mem_nil⟩⟩⟩⟩⟩⟩⟩⟩⟩⟩⟩⟩⟩⟩⟩⟩
def ckl_5 : List Nat := [90, 91, 92, 93, 94, 95, 97, 98, 99, 100, 101, 102, 104, 105, 106, 107]
theorem cka_5 : ∀ y ∈ ckl_5, chkT y = true := List.forall_mem_cons.mpr ⟨ck_90, List.forall_mem_cons.mpr ⟨ck_91, List.forall_mem_cons.mpr ⟨ck_92, List.forall_mem_cons.mpr ⟨ck_93, List.forall_mem_cons.mpr ⟨ck_94, List.forall_mem_cons.mpr ⟨ck_95, List.forall_mem_cons.mpr ⟨ck_97, List.forall_mem_cons.mpr ⟨ck_98, List.forall_mem_cons.mpr ⟨ck_99, List.forall_mem_cons.mpr ⟨ck_100, List.forall_mem_cons.mpr ⟨ck_101, List.forall_mem_cons.mpr ⟨ck_102, List.forall_mem_cons.mpr ⟨ck_104, List.forall_mem_cons.mpr ⟨ck_105, List.forall_mem_cons.mpr ⟨ck_106, List.forall_mem_cons.mpr ⟨ck_107, fun _ h => absurd h List.not_mem_nil⟩⟩⟩⟩⟩⟩⟩⟩⟩⟩⟩⟩⟩⟩⟩⟩
def ckl_6 : List Nat := [108, 109, 110, 111, 112, 113, 114, 115, 116, 117, 118, 119, 120, 121, 122, 123]
theorem cka_6 : ∀ y ∈ ckl_6, chkT y = true := List.forall_mem_cons.mpr ⟨ck_108, List.forall_mem_cons.mpr ⟨ck_109, List.forall_mem_cons.mpr ⟨ck_110, List.forall_mem_cons.mpr ⟨ck_111, List.forall_mem_cons.mpr ⟨ck_112, List.forall_mem_cons.mpr ⟨ck_113, List.forall_mem_cons.mpr ⟨ck_114, List.forall_mem_cons.mpr ⟨ck_115, List.forall_mem_cons.mpr ⟨ck_116, List.forall_mem_cons.mpr ⟨ck_117, List.forall_mem_cons.mpr ⟨ck_118, List.forall_mem_cons.mpr ⟨ck_119, List.forall_mem_cons.mpr ⟨ck_120, List.forall_mem_cons.mpr ⟨ck_121, List.forall_mem_cons.mpr ⟨ck_122, List.forall_mem_cons.mpr ⟨ck_123, fun _ h => absurd h List.not_mem_nil⟩⟩⟩⟩⟩⟩⟩⟩⟩⟩⟩⟩⟩⟩⟩⟩
def ckl_7 : List Nat := [124, 125, 126, 127, 128, 129, 130, 131, 132, 133, 134, 135, 136, 137, 138, 139]
theorem cka_7 : ∀ y ∈ ckl_7, chkT y = true := List.forall_mem_cons.mpr ⟨ck_124, List.forall_mem_cons.mpr ⟨ck_125, List.forall_mem_cons.mpr ⟨ck_126, List.forall_mem_cons.mpr ⟨ck_127, List.forall_mem_cons.mpr ⟨ck_128, List.forall_mem_cons.mpr ⟨ck_129, List.forall_mem_cons.mpr ⟨ck_130, List.forall_mem_cons.mpr ⟨ck_131, List.forall_mem_cons.mpr ⟨ck_132, List.forall_mem_cons.mpr ⟨ck_133, List.forall_mem_cons.mpr ⟨ck_134, List.forall_mem_cons.mpr ⟨ck_135, List.forall_mem_cons.mpr ⟨ck_136, List.forall_mem_cons.mpr ⟨ck_137, List.forall_mem_cons.mpr ⟨ck_138, List.forall_mem_cons.mpr ⟨ck_139, fun _ h => absurd h List.not_mem_nil⟩⟩⟩⟩⟩⟩⟩⟩⟩⟩⟩⟩⟩⟩⟩⟩
def ckl_8 : List Nat := [140, 141, 142, 143, 144, 145, 146, 147, 148, 149, 150, 151, 152, 153, 154, 155]
theorem cka_8 : ∀ y ∈ ckl_8, chkT y = true := List.forall_mem_cons.mpr ⟨ck_140, List.forall_mem_cons.mpr ⟨ck_141, List.forall_mem_cons.mpr ⟨ck_142, List.forall_mem_cons.mpr ⟨ck_143, List.forall_mem_cons.mpr ⟨ck_144, List.forall_mem_cons.mpr ⟨ck_145, List.forall_mem_cons.mpr ⟨ck_146, List.forall_mem_cons.mpr ⟨ck_147, List.forall_mem_cons.mpr ⟨ck_148, List.forall_mem_cons.mpr ⟨ck_149, List.forall_mem_cons.mpr ⟨ck_150, List.forall_mem_cons.mpr ⟨ck_151, List.forall_mem_cons.mpr ⟨ck_152, List.forall_mem_cons.mpr ⟨ck_153, List.forall_mem_cons.mpr ⟨ck_154, List.forall_mem_cons.mpr ⟨ck_155, fun _ h => absurd h List.not_mem_nil⟩⟩⟩⟩⟩⟩⟩⟩⟩⟩⟩⟩⟩⟩⟩⟩
def ckl_9 : List Nat := [156, 157, 159, 160, 161, 162, 163, 164, 165, 166, 167, 168, 169, 170, 171, 172]
theorem cka_9 : ∀ y ∈ ckl_9, chkT y = true := List.forall_mem_cons.mpr ⟨ck_156, List.forall_mem_cons.mpr ⟨ck_157, List.forall_mem_cons.mpr ⟨ck_159, List.forall_mem_cons.mpr ⟨ck_160, List.forall_mem_cons.mpr ⟨ck_161, List.forall_mem_cons.mpr ⟨ck_162, List.forall_mem_cons.mpr ⟨ck_163, List.forall_mem_cons.mpr ⟨ck_164, List.forall_mem_cons.mpr ⟨ck_165, List.forall_mem_cons.mpr ⟨ck_166, List.forall_mem_cons.mpr ⟨ck_167, List.forall_mem_cons.mpr ⟨ck_168, List.forall_mem_cons.mpr ⟨ck_169, List.forall_mem_cons.mpr ⟨ck_170, List.forall_mem_cons.mpr ⟨ck_171, List.forall_mem_cons.mpr ⟨ck_172, fun _ h => absurd h List.not_mem_nil⟩⟩⟩⟩⟩⟩⟩⟩⟩⟩⟩⟩⟩⟩⟩⟩
def ckl_10 : List Nat := [173, 174, 175, 176, 177, 178, 179, 180, 181, 182, 183, 184, 185, 186, 187, 188]
theorem cka_10 : ∀ y ∈ ckl_10, chkT y = true := List.forall_mem_cons.mpr ⟨ck_173, List.forall_mem_cons.mpr ⟨ck_174, List.forall_mem_cons.mpr ⟨ck_175, List.forall_mem_cons.mpr ⟨ck_176, List.forall_mem_cons.mpr ⟨ck_177, List.forall_mem_cons.mpr ⟨ck_178, List.forall_mem_cons.mpr ⟨ck_179, List.forall_mem_cons.mpr ⟨ck_180, List.forall_mem_cons.mpr ⟨ck_181, List.forall_mem_cons.mpr ⟨ck_182, List.forall_mem_cons.mpr ⟨ck_183, List.forall_mem_cons.mpr ⟨ck_184, List.forall_mem_cons.mpr ⟨ck_185, List.forall_mem_cons.mpr ⟨ck_186, List.forall_mem_cons.mpr ⟨ck_187, List.forall_mem_cons.mpr ⟨ck_188, fun _ h => absurd h List.not_mem_nil⟩⟩⟩⟩⟩⟩⟩⟩⟩⟩⟩⟩⟩⟩⟩⟩
def ckl_11 : List Nat := [189, 190, 191, 192, 193, 194, 195, 196, 197, 198, 199, 200, 201, 202, 203, 204]
theorem cka_11 : ∀ y ∈ ckl_11, chkT y = true := List.forall_mem_cons.mpr ⟨ck_189, List.forall_mem_cons.mpr ⟨ck_190, List.forall_mem_cons.mpr ⟨ck_191, List.forall_mem_cons.mpr ⟨ck_192, List.forall_mem_cons.mpr ⟨ck_193, List.forall_mem_cons.mpr ⟨ck_194, List.forall_mem_cons.mpr ⟨ck_195, List.forall_mem_cons.mpr ⟨ck_196, List.forall_mem_cons.mpr ⟨ck_197, List.forall_mem_cons.mpr ⟨ck_198, List.forall_mem_cons.mpr ⟨ck_199, List.forall_mem_cons.mpr ⟨ck_200, List.forall_mem_cons.mpr ⟨ck_201, List.forall_mem_cons.mpr ⟨ck_202, List.forall_mem_cons.mpr ⟨ck_203, List.forall_mem_cons.mpr ⟨ck_204, fun _ h => absurd h List.not_mem_nil⟩⟩⟩⟩⟩⟩⟩⟩⟩⟩⟩⟩⟩⟩⟩⟩
def ckl_12 : List Nat := [205, 206, 207, 208, 209, 210, 211, 212, 213, 214, 215, 216, 217, 218, 219, 220]
theorem cka_12 : ∀ y ∈ ckl_12, chkT y = true := List.forall_mem_cons.mpr ⟨ck_205, List.forall_mem_cons.mpr ⟨ck_206, List.forall_mem_cons.mpr ⟨ck_207, List.forall_mem_cons.mpr ⟨ck_208, List.forall_mem_cons.mpr ⟨ck_209, List.forall_mem_cons.mpr ⟨ck_210, List.forall_mem_cons.mpr ⟨ck_211, List.forall_mem_cons.mpr ⟨ck_212, List.forall_mem_cons.mpr ⟨ck_213, List.forall_mem_cons.mpr ⟨ck_214, List.forall_mem_cons.mpr ⟨ck_215, List.forall_mem_cons.mpr ⟨ck_216, List.forall_mem_cons.mpr ⟨ck_217, List.forall_mem_cons.mpr ⟨ck_218, List.forall_mem_cons.mpr ⟨ck_219, List.forall_mem_cons.mpr ⟨ck_220, fun _ h => absurd h List.not_mem_nil⟩⟩⟩⟩⟩⟩⟩⟩⟩⟩⟩⟩⟩⟩⟩⟩
def ckl_13 : List Nat := [221, 222, 223, 224, 225, 226, 227, 228, 229, 230, 231, 232, 233, 234, 235, 236]
theorem cka_13 : ∀ y ∈ ckl_13, chkT y = true := List.forall_mem_cons.mpr ⟨ck_221, List.forall_mem_cons.mpr ⟨ck_222, List.forall_mem_cons.mpr ⟨ck_223, List.forall_mem_cons.mpr ⟨ck_224, List.forall_mem_cons.mpr ⟨ck_225, List.forall_mem_cons.mpr ⟨ck_226, List.forall_mem_cons.mpr ⟨ck_227, List.forall_mem_cons.mpr ⟨ck_228, List.forall_mem_cons.mpr ⟨ck_229, List.forall_mem_cons.mpr ⟨ck_230, List.forall_mem_cons.mpr ⟨ck_231, List.forall_mem_cons.mpr ⟨ck_232, List.forall_mem_cons.mpr ⟨ck_233, List.forall_mem_cons.mpr ⟨ck_234, List.forall_mem_cons.mpr ⟨ck_235, List.forall_mem_cons.mpr ⟨ck_236, fun _ h => absurd h List.not_mem_nil⟩⟩⟩⟩⟩⟩⟩⟩⟩⟩⟩⟩⟩⟩⟩⟩
def ckl_14 : List Nat := [237, 238, 239, 240, 241, 242, 243, 244, 245, 246, 247, 248, 249, 250, 251, 252]
theorem cka_14 : ∀ y ∈ ckl_14, chkT y = true := List.forall_mem_cons.mpr ⟨ck_237, List.forall_mem_cons.mpr ⟨ck_238, List.forall_mem_cons.mpr ⟨ck_239, List.forall_mem_cons.mpr ⟨ck_240, List.forall_mem_cons.mpr ⟨ck_241, List.forall_mem_cons.mpr ⟨ck_242, List.forall_mem_cons.mpr ⟨ck_243, List.forall_mem_cons.mpr ⟨ck_244, List.forall_mem_cons.mpr ⟨ck_245, List.forall_mem_cons.mpr ⟨ck_246, List.forall_mem_cons.mpr ⟨ck_247, List.forall_mem_cons.mpr ⟨ck_248, List.forall_mem_cons.mpr ⟨ck_249, List.forall_mem_cons.mpr ⟨ck_250, List.forall_mem_cons.mpr ⟨ck_251, List.forall_mem_cons.mpr ⟨ck_252, fun _ h => absurd h List.not_mem_nil⟩⟩⟩⟩⟩⟩⟩⟩⟩⟩⟩⟩⟩⟩⟩⟩
def ckl_15 : List Nat := [253, 254, 255, 256, 257, 258, 259, 260, 261, 262, 263, 264, 265, 266, 267, 268]
theorem cka_15 : ∀ y ∈ ckl_15, chkT y = true := List.forall_mem_cons.mpr ⟨ck_253, List.forall_mem_cons.mpr ⟨ck_254, List.forall_mem_cons.mpr ⟨ck_255, List.forall_mem_cons.mpr ⟨ck_256, List.forall_mem_cons.mpr ⟨ck_257, List.forall_mem_cons.mpr ⟨ck_258, List.forall_mem_cons.mpr ⟨ck_259, List.forall_mem_cons.mpr ⟨ck_260, List.forall_mem_cons.mpr ⟨ck_261, List.forall_mem_cons.mpr ⟨ck_262, List.forall_mem_cons.mpr ⟨ck_263, List.forall_mem_cons.mpr ⟨ck_264, List.forall_mem_cons.mpr ⟨ck_265, List.forall_mem_cons.mpr ⟨ck_266, List.forall_mem_cons.mpr ⟨ck_267, List.forall_mem_cons.mpr ⟨ck_268, fun _ h => absurd h List.not_mem_nil⟩⟩⟩⟩⟩⟩⟩⟩⟩⟩⟩⟩⟩⟩⟩⟩
def ckl_16 : List Nat := [269, 271, 272, 273, 274, 284, 286]
theorem cka_16 : ∀ y ∈ ckl_16, chkT y = true := List.forall_mem_cons.mpr ⟨ck_269, List.forall_mem_cons.mpr ⟨ck_271, List.forall_mem_cons.mpr ⟨ck_272, List.forall_mem_cons.mpr ⟨ck_273, List.forall_mem_cons.mpr ⟨ck_274, List.forall_mem_cons.mpr ⟨ck_284, List.forall_mem_cons.mpr ⟨ck_286, fun _ h => absurd h List.not_mem_nil⟩⟩⟩⟩⟩⟩⟩
def ckl : List Nat := ckl_0 ++ (ckl_1 ++ (ckl_2 ++ (ckl_3 ++ (ckl_4 ++ (ckl_5 ++ (ckl_6 ++ (ckl_7 ++ (ckl_8 ++ (ckl_9 ++ (ckl_10 ++ (ckl_11 ++ (ckl_12 ++ (ckl_13 ++ (ckl_14 ++ (ckl_15 ++ (ckl_16))))))))))))))))
theorem cka : ∀ y ∈ ckl, chkT y = true := List.forall_mem_append.mpr ⟨cka_0, List.forall_mem_append.mpr ⟨cka_1, List.forall_mem_append.mpr ⟨cka_2, List.forall_mem_append.mpr ⟨cka_3, List.forall_mem_append.mpr ⟨cka_4, List.forall_mem_append.mpr ⟨cka_5, List.forall_mem_append.mpr ⟨cka_6, List.forall_mem_append.mpr ⟨cka_7, List.forall_mem_append.mpr ⟨cka_8, List.forall_mem_append.mpr ⟨cka_9, List.forall_mem_append.mpr ⟨cka_10, List.forall_mem_append.mpr ⟨cka_11, List.forall_mem_append.mpr ⟨cka_12, List.forall_mem_append.mpr ⟨cka_13, List.forall_mem_append.mpr ⟨cka_14, List.forall_mem_append.mpr ⟨cka_15, cka_16⟩⟩⟩⟩⟩⟩⟩⟩⟩⟩⟩⟩⟩⟩⟩⟩
theorem plain_all : ∀ y ∈ ckl, plainName (ynt y).cls = true ∧ owt y = (ynt y).cls := by decide +kernel
