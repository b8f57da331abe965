/-! making cells, calls, and the whole: what the logical machine does, the machine does -/
theorem kcj_0 {m : Nat} (h1 : 0 ≤ m) (h2 : m < 16) : kckm m = true := by
  rcases (show m = 0 ∨ m = 1 ∨ m = 2 ∨ m = 3 ∨ m = 4 ∨ m = 5 ∨ m = 6 ∨ m = 7 ∨ m = 8 ∨ m = 9 ∨ m = 10 ∨ m = 11 ∨ m = 12 ∨ m = 13 ∨ m = 14 ∨ m = 15 by omega) with rfl | rfl | rfl | rfl | rfl | rfl | rfl | rfl | rfl | rfl | rfl | rfl | rfl | rfl | rfl | rfl
  · exact kck_0
  · exact kck_1
  · exact kck_2
  · exact kck_3
  · exact kck_4
  · exact kck_5
  · exact kck_6
  · exact kck_7
  · exact kck_8
  · exact kck_9
  · exact kck_10
  · exact kck_11
  · exact kck_12
  · exact kck_13
  · exact kck_14
  · exact kck_15
theorem kcj_16 {m : Nat} (h1 : 16 ≤ m) (h2 : m < 32) : kckm m = true := by
  rcases (show m = 16 ∨ m = 17 ∨ m = 18 ∨ m = 19 ∨ m = 20 ∨ m = 21 ∨ m = 22 ∨ m = 23 ∨ m = 24 ∨ m = 25 ∨ m = 26 ∨ m = 27 ∨ m = 28 ∨ m = 29 ∨ m = 30 ∨ m = 31 by omega) with rfl | rfl | rfl | rfl | rfl | rfl | rfl | rfl | rfl | rfl | rfl | rfl | rfl | rfl | rfl | rfl
  · exact kck_16
  · exact kck_17
  · exact kck_18
  · exact kck_19
  · exact kck_20
  · exact kck_21
  · exact kck_22
  · exact kck_23
  · exact kck_24
  · exact kck_25
  · exact kck_26
  · exact kck_27
  · exact kck_28
  · exact kck_29
  · exact kck_30
  · exact kck_31
theorem kcj_32 {m : Nat} (h1 : 32 ≤ m) (h2 : m < 48) : kckm m = true := by
  rcases (show m = 32 ∨ m = 33 ∨ m = 34 ∨ m = 35 ∨ m = 36 ∨ m = 37 ∨ m = 38 ∨ m = 39 ∨ m = 40 ∨ m = 41 ∨ m = 42 ∨ m = 43 ∨ m = 44 ∨ m = 45 ∨ m = 46 ∨ m = 47 by omega) with rfl | rfl | rfl | rfl | rfl | rfl | rfl | rfl | rfl | rfl | rfl | rfl | rfl | rfl | rfl | rfl
  · exact kck_32
  · exact kck_33
  · exact kck_34
  · exact kck_35
  · exact kck_36
  · exact kck_37
  · exact kck_38
  · exact kck_39
  · exact kck_40
  · exact kck_41
  · exact kck_42
  · exact kck_43
  · exact kck_44
  · exact kck_45
  · exact kck_46
  · exact kck_47
theorem kcj_48 {m : Nat} (h1 : 48 ≤ m) (h2 : m < 64) : kckm m = true := by
  rcases (show m = 48 ∨ m = 49 ∨ m = 50 ∨ m = 51 ∨ m = 52 ∨ m = 53 ∨ m = 54 ∨ m = 55 ∨ m = 56 ∨ m = 57 ∨ m = 58 ∨ m = 59 ∨ m = 60 ∨ m = 61 ∨ m = 62 ∨ m = 63 by omega) with rfl | rfl | rfl | rfl | rfl | rfl | rfl | rfl | rfl | rfl | rfl | rfl | rfl | rfl | rfl | rfl
  · exact kck_48
  · exact kck_49
  · exact kck_50
  · exact kck_51
  · exact kck_52
  · exact kck_53
  · exact kck_54
  · exact kck_55
  · exact kck_56
  · exact kck_57
  · exact kck_58
  · exact kck_59
  · exact kck_60
  · exact kck_61
  · exact kck_62
  · exact kck_63
theorem kcj_64 {m : Nat} (h1 : 64 ≤ m) (h2 : m < 80) : kckm m = true := by
  rcases (show m = 64 ∨ m = 65 ∨ m = 66 ∨ m = 67 ∨ m = 68 ∨ m = 69 ∨ m = 70 ∨ m = 71 ∨ m = 72 ∨ m = 73 ∨ m = 74 ∨ m = 75 ∨ m = 76 ∨ m = 77 ∨ m = 78 ∨ m = 79 by omega) with rfl | rfl | rfl | rfl | rfl | rfl | rfl | rfl | rfl | rfl | rfl | rfl | rfl | rfl | rfl | rfl
  · exact kck_64
  · exact kck_65
  · exact kck_66
  · exact kck_67
  · exact kck_68
  · exact kck_69
  · exact kck_70
  · exact kck_71
  · exact kck_72
  · exact kck_73
  · exact kck_74
  · exact kck_75
  · exact kck_76
  · exact kck_77
  · exact kck_78
  · exact kck_79
theorem kcj_80 {m : Nat} (h1 : 80 ≤ m) (h2 : m < 96) : kckm m = true := by
  rcases (show m = 80 ∨ m = 81 ∨ m = 82 ∨ m = 83 ∨ m = 84 ∨ m = 85 ∨ m = 86 ∨ m = 87 ∨ m = 88 ∨ m = 89 ∨ m = 90 ∨ m = 91 ∨ m = 92 ∨ m = 93 ∨ m = 94 ∨ m = 95 by omega) with rfl | rfl | rfl | rfl | rfl | rfl | rfl | rfl | rfl | rfl | rfl | rfl | rfl | rfl | rfl | rfl
  · exact kck_80
  · exact kck_81
  · exact kck_82
  · exact kck_83
  · exact kck_84
  · exact kck_85
  · exact kck_86
  · exact kck_87
  · exact kck_88
  · exact kck_89
  · exact kck_90
  · exact kck_91
  · exact kck_92
  · exact kck_93
  · exact kck_94
  · exact kck_95
theorem kcj_96 {m : Nat} (h1 : 96 ≤ m) (h2 : m < 112) : kckm m = true := by
  rcases (show m = 96 ∨ m = 97 ∨ m = 98 ∨ m = 99 ∨ m = 100 ∨ m = 101 ∨ m = 102 ∨ m = 103 ∨ m = 104 ∨ m = 105 ∨ m = 106 ∨ m = 107 ∨ m = 108 ∨ m = 109 ∨ m = 110 ∨ m = 111 by omega) with rfl | rfl | rfl | rfl | rfl | rfl | rfl | rfl | rfl | rfl | rfl | rfl | rfl | rfl | rfl | rfl
  · exact kck_96
  · exact kck_97
  · exact kck_98
  · exact kck_99
  · exact kck_100
  · exact kck_101
  · exact kck_102
  · exact kck_103
  · exact kck_104
  · exact kck_105
  · exact kck_106
  · exact kck_107
  · exact kck_108
  · exact kck_109
  · exact kck_110
  · exact kck_111
theorem kcj_112 {m : Nat} (h1 : 112 ≤ m) (h2 : m < 128) : kckm m = true := by
  rcases (show m = 112 ∨ m = 113 ∨ m = 114 ∨ m = 115 ∨ m = 116 ∨ m = 117 ∨ m = 118 ∨ m = 119 ∨ m = 120 ∨ m = 121 ∨ m = 122 ∨ m = 123 ∨ m = 124 ∨ m = 125 ∨ m = 126 ∨ m = 127 by omega) with rfl | rfl | rfl | rfl | rfl | rfl | rfl | rfl | rfl | rfl | rfl | rfl | rfl | rfl | rfl | rfl
  · exact kck_112
  · exact kck_113
  · exact kck_114
  · exact kck_115
  · exact kck_116
  · exact kck_117
  · exact kck_118
  · exact kck_119
  · exact kck_120
  · exact kck_121
  · exact kck_122
  · exact kck_123
  · exact kck_124
  · exact kck_125
  · exact kck_126
  · exact kck_127
theorem kcj_128 {m : Nat} (h1 : 128 ≤ m) (h2 : m < 144) : kckm m = true := by
  rcases (show m = 128 ∨ m = 129 ∨ m = 130 ∨ m = 131 ∨ m = 132 ∨ m = 133 ∨ m = 134 ∨ m = 135 ∨ m = 136 ∨ m = 137 ∨ m = 138 ∨ m = 139 ∨ m = 140 ∨ m = 141 ∨ m = 142 ∨ m = 143 by omega) with rfl | rfl | rfl | rfl | rfl | rfl | rfl | rfl | rfl | rfl | rfl | rfl | rfl | rfl | rfl | rfl
  · exact kck_128
  · exact kck_129
  · exact kck_130
  · exact kck_131
  · exact kck_132
  · exact kck_133
  · exact kck_134
  · exact kck_135
  · exact kck_136
  · exact kck_137
  · exact kck_138
  · exact kck_139
  · exact kck_140
  · exact kck_141
  · exact kck_142
  · exact kck_143
theorem kcj_144 {m : Nat} (h1 : 144 ≤ m) (h2 : m < 160) : kckm m = true := by
  rcases (show m = 144 ∨ m = 145 ∨ m = 146 ∨ m = 147 ∨ m = 148 ∨ m = 149 ∨ m = 150 ∨ m = 151 ∨ m = 152 ∨ m = 153 ∨ m = 154 ∨ m = 155 ∨ m = 156 ∨ m = 157 ∨ m = 158 ∨ m = 159 by omega) with rfl | rfl | rfl | rfl | rfl | rfl | rfl | rfl | rfl | rfl | rfl | rfl | rfl | rfl | rfl | rfl
  · exact kck_144
  · exact kck_145
  · exact kck_146
  · exact kck_147
  · exact kck_148
  · exact kck_149
  · exact kck_150
  · exact kck_151
  · exact kck_152
  · exact kck_153
  · exact kck_154
  · exact kck_155
  · exact kck_156
  · exact kck_157
  · exact kck_158
  · exact kck_159
theorem kcj_160 {m : Nat} (h1 : 160 ≤ m) (h2 : m < 176) : kckm m = true := by
  rcases (show m = 160 ∨ m = 161 ∨ m = 162 ∨ m = 163 ∨ m = 164 ∨ m = 165 ∨ m = 166 ∨ m = 167 ∨ m = 168 ∨ m = 169 ∨ m = 170 ∨ m = 171 ∨ m = 172 ∨ m = 173 ∨ m = 174 ∨ m = 175 by omega) with rfl | rfl | rfl | rfl | rfl | rfl | rfl | rfl | rfl | rfl | rfl | rfl | rfl | rfl | rfl | rfl
  · exact kck_160
  · exact kck_161
  · exact kck_162
  · exact kck_163
  · exact kck_164
  · exact kck_165
  · exact kck_166
  · exact kck_167
  · exact kck_168
  · exact kck_169
  · exact kck_170
  · exact kck_171
  · exact kck_172
  · exact kck_173
  · exact kck_174
  · exact kck_175
theorem kcj_176 {m : Nat} (h1 : 176 ≤ m) (h2 : m < 192) : kckm m = true := by
  rcases (show m = 176 ∨ m = 177 ∨ m = 178 ∨ m = 179 ∨ m = 180 ∨ m = 181 ∨ m = 182 ∨ m = 183 ∨ m = 184 ∨ m = 185 ∨ m = 186 ∨ m = 187 ∨ m = 188 ∨ m = 189 ∨ m = 190 ∨ m = 191 by omega) with rfl | rfl | rfl | rfl | rfl | rfl | rfl | rfl | rfl | rfl | rfl | rfl | rfl | rfl | rfl | rfl
  · exact kck_176
  · exact kck_177
  · exact kck_178
  · exact kck_179
  · exact kck_180
  · exact kck_181
  · exact kck_182
  · exact kck_183
  · exact kck_184
  · exact kck_185
  · exact kck_186
  · exact kck_187
  · exact kck_188
  · exact kck_189
  · exact kck_190
  · exact kck_191
theorem kcj_192 {m : Nat} (h1 : 192 ≤ m) (h2 : m < 208) : kckm m = true := by
  rcases (show m = 192 ∨ m = 193 ∨ m = 194 ∨ m = 195 ∨ m = 196 ∨ m = 197 ∨ m = 198 ∨ m = 199 ∨ m = 200 ∨ m = 201 ∨ m = 202 ∨ m = 203 ∨ m = 204 ∨ m = 205 ∨ m = 206 ∨ m = 207 by omega) with rfl | rfl | rfl | rfl | rfl | rfl | rfl | rfl | rfl | rfl | rfl | rfl | rfl | rfl | rfl | rfl
  · exact kck_192
  · exact kck_193
  · exact kck_194
  · exact kck_195
  · exact kck_196
  · exact kck_197
  · exact kck_198
  · exact kck_199
  · exact kck_200
  · exact kck_201
  · exact kck_202
  · exact kck_203
  · exact kck_204
  · exact kck_205
  · exact kck_206
  · exact kck_207
theorem kcj_208 {m : Nat} (h1 : 208 ≤ m) (h2 : m < 224) : kckm m = true := by
  rcases (show m = 208 ∨ m = 209 ∨ m = 210 ∨ m = 211 ∨ m = 212 ∨ m = 213 ∨ m = 214 ∨ m = 215 ∨ m = 216 ∨ m = 217 ∨ m = 218 ∨ m = 219 ∨ m = 220 ∨ m = 221 ∨ m = 222 ∨ m = 223 by omega) with rfl | rfl | rfl | rfl | rfl | rfl | rfl | rfl | rfl | rfl | rfl | rfl | rfl | rfl | rfl | rfl
  · exact kck_208
  · exact kck_209
  · exact kck_210
  · exact kck_211
  · exact kck_212
  · exact kck_213
  · exact kck_214
  · exact kck_215
  · exact kck_216
  · exact kck_217
  · exact kck_218
  · exact kck_219
  · exact kck_220
  · exact kck_221
  · exact kck_222
  · exact kck_223
theorem kcj_224 {m : Nat} (h1 : 224 ≤ m) (h2 : m < 240) : kckm m = true := by
  rcases (show m = 224 ∨ m = 225 ∨ m = 226 ∨ m = 227 ∨ m = 228 ∨ m = 229 ∨ m = 230 ∨ m = 231 ∨ m = 232 ∨ m = 233 ∨ m = 234 ∨ m = 235 ∨ m = 236 ∨ m = 237 ∨ m = 238 ∨ m = 239 by omega) with rfl | rfl | rfl | rfl | rfl | rfl | rfl | rfl | rfl | rfl | rfl | rfl | rfl | rfl | rfl | rfl
  · exact kck_224
  · exact kck_225
  · exact kck_226
  · exact kck_227
  · exact kck_228
  · exact kck_229
  · exact kck_230
  · exact kck_231
  · exact kck_232
  · exact kck_233
  · exact kck_234
  · exact kck_235
  · exact kck_236
  · exact kck_237
  · exact kck_238
  · exact kck_239
theorem kcj_240 {m : Nat} (h1 : 240 ≤ m) (h2 : m < 256) : kckm m = true := by
  rcases (show m = 240 ∨ m = 241 ∨ m = 242 ∨ m = 243 ∨ m = 244 ∨ m = 245 ∨ m = 246 ∨ m = 247 ∨ m = 248 ∨ m = 249 ∨ m = 250 ∨ m = 251 ∨ m = 252 ∨ m = 253 ∨ m = 254 ∨ m = 255 by omega) with rfl | rfl | rfl | rfl | rfl | rfl | rfl | rfl | rfl | rfl | rfl | rfl | rfl | rfl | rfl | rfl
  · exact kck_240
  · exact kck_241
  · exact kck_242
  · exact kck_243
  · exact kck_244
  · exact kck_245
  · exact kck_246
  · exact kck_247
  · exact kck_248
  · exact kck_249
  · exact kck_250
  · exact kck_251
  · exact kck_252
  · exact kck_253
  · exact kck_254
  · exact kck_255
theorem kcj_256 {m : Nat} (h1 : 256 ≤ m) (h2 : m < 272) : kckm m = true := by
  rcases (show m = 256 ∨ m = 257 ∨ m = 258 ∨ m = 259 ∨ m = 260 ∨ m = 261 ∨ m = 262 ∨ m = 263 ∨ m = 264 ∨ m = 265 ∨ m = 266 ∨ m = 267 ∨ m = 268 ∨ m = 269 ∨ m = 270 ∨ m = 271 by omega) with rfl | rfl | rfl | rfl | rfl | rfl | rfl | rfl | rfl | rfl | rfl | rfl | rfl | rfl | rfl | rfl
  · exact kck_256
  · exact kck_257
  · exact kck_258
  · exact kck_259
  · exact kck_260
  · exact kck_261
  · exact kck_262
  · exact kck_263
  · exact kck_264
  · exact kck_265
  · exact kck_266
  · exact kck_267
  · exact kck_268
  · exact kck_269
  · exact kck_270
  · exact kck_271
theorem kcj_272 {m : Nat} (h1 : 272 ≤ m) (h2 : m < 288) : kckm m = true := by
  rcases (show m = 272 ∨ m = 273 ∨ m = 274 ∨ m = 275 ∨ m = 276 ∨ m = 277 ∨ m = 278 ∨ m = 279 ∨ m = 280 ∨ m = 281 ∨ m = 282 ∨ m = 283 ∨ m = 284 ∨ m = 285 ∨ m = 286 ∨ m = 287 by omega) with rfl | rfl | rfl | rfl | rfl | rfl | rfl | rfl | rfl | rfl | rfl | rfl | rfl | rfl | rfl | rfl
  · exact kck_272
  · exact kck_273
  · exact kck_274
  · exact kck_275
  · exact kck_276
  · exact kck_277
  · exact kck_278
  · exact kck_279
  · exact kck_280
  · exact kck_281
  · exact kck_282
  · exact kck_283
  · exact kck_284
  · exact kck_285
  · exact kck_286
  · exact kck_287
theorem kck_lt {m : Nat} (h : m < 288) : kckm m = true := by
  by_cases h0 : m < 16
  · exact kcj_0 (by omega) h0
  by_cases h16 : m < 32
  · exact kcj_16 (by omega) h16
  by_cases h32 : m < 48
  · exact kcj_32 (by omega) h32
  by_cases h48 : m < 64
  · exact kcj_48 (by omega) h48
  by_cases h64 : m < 80
  · exact kcj_64 (by omega) h64
  by_cases h80 : m < 96
  · exact kcj_80 (by omega) h80
  by_cases h96 : m < 112
  · exact kcj_96 (by omega) h96
  by_cases h112 : m < 128
  · exact kcj_112 (by omega) h112
  by_cases h128 : m < 144
  · exact kcj_128 (by omega) h128
  by_cases h144 : m < 160
  · exact kcj_144 (by omega) h144
  by_cases h160 : m < 176
  · exact kcj_160 (by omega) h160
  by_cases h176 : m < 192
  · exact kcj_176 (by omega) h176
  by_cases h192 : m < 208
  · exact kcj_192 (by omega) h192
  by_cases h208 : m < 224
  · exact kcj_208 (by omega) h208
  by_cases h224 : m < 240
  · exact kcj_224 (by omega) h224
  by_cases h240 : m < 256
  · exact kcj_240 (by omega) h240
  by_cases h256 : m < 272
  · exact kcj_256 (by omega) h256
  by_cases h272 : m < 288
  · exact kcj_272 (by omega) h272
  omega
theorem kck_law {pc : Nat} (h : pc < 1527) : kck 288 pc = true := by
  by_cases h0 : pc < 90
  · exact List.all_eq_true.mp kckl_0 pc (List.mem_range'_1.mpr ⟨by omega, by omega⟩)
  by_cases h1 : pc < 180
  · exact List.all_eq_true.mp kckl_1 pc (List.mem_range'_1.mpr ⟨by omega, by omega⟩)
  by_cases h2 : pc < 270
  · exact List.all_eq_true.mp kckl_2 pc (List.mem_range'_1.mpr ⟨by omega, by omega⟩)
  by_cases h3 : pc < 360
  · exact List.all_eq_true.mp kckl_3 pc (List.mem_range'_1.mpr ⟨by omega, by omega⟩)
  by_cases h4 : pc < 450
  · exact List.all_eq_true.mp kckl_4 pc (List.mem_range'_1.mpr ⟨by omega, by omega⟩)
  by_cases h5 : pc < 540
  · exact List.all_eq_true.mp kckl_5 pc (List.mem_range'_1.mpr ⟨by omega, by omega⟩)
  by_cases h6 : pc < 630
  · exact List.all_eq_true.mp kckl_6 pc (List.mem_range'_1.mpr ⟨by omega, by omega⟩)
  by_cases h7 : pc < 720
  · exact List.all_eq_true.mp kckl_7 pc (List.mem_range'_1.mpr ⟨by omega, by omega⟩)
  by_cases h8 : pc < 810
  · exact List.all_eq_true.mp kckl_8 pc (List.mem_range'_1.mpr ⟨by omega, by omega⟩)
  by_cases h9 : pc < 900
  · exact List.all_eq_true.mp kckl_9 pc (List.mem_range'_1.mpr ⟨by omega, by omega⟩)
  by_cases h10 : pc < 990
  · exact List.all_eq_true.mp kckl_10 pc (List.mem_range'_1.mpr ⟨by omega, by omega⟩)
  by_cases h11 : pc < 1080
  · exact List.all_eq_true.mp kckl_11 pc (List.mem_range'_1.mpr ⟨by omega, by omega⟩)
  by_cases h12 : pc < 1170
  · exact List.all_eq_true.mp kckl_12 pc (List.mem_range'_1.mpr ⟨by omega, by omega⟩)
  by_cases h13 : pc < 1260
  · exact List.all_eq_true.mp kckl_13 pc (List.mem_range'_1.mpr ⟨by omega, by omega⟩)
  by_cases h14 : pc < 1350
  · exact List.all_eq_true.mp kckl_14 pc (List.mem_range'_1.mpr ⟨by omega, by omega⟩)
  by_cases h15 : pc < 1440
  · exact List.all_eq_true.mp kckl_15 pc (List.mem_range'_1.mpr ⟨by omega, by omega⟩)
  by_cases h16 : pc < 1527
  · exact List.all_eq_true.mp kckl_16 pc (List.mem_range'_1.mpr ⟨by omega, by omega⟩)
  omega
theorem kcode_ok {m pc len : Nat} {i : Instr} (h : kcode m pc = some (i, len)) : decode (kby m) pc = .ok (i, len) ∧ klenok i len = true := by
  unfold kcode at h
  cases hg : Nat.blt m 289 && Nat.blt pc (kcl m)
  · rw [hg] at h; cases h
  · rw [hg] at h
    simp only [Bool.and_eq_true, Nat.blt_eq] at hg
    have h : kcodeT m pc = some (i, len) := h
    have hk : kck m pc = true := by
      by_cases hm : m < 288
      · exact List.all_eq_true.mp (kck_lt hm) pc (List.mem_range.mpr hg.2)
      · have : m = 288 := by omega
        subst this
        exact kck_law hg.2
    simp only [kck, h, Bool.and_eq_true] at hk
    exact ⟨of_decide_eq_true hk.1, hk.2⟩
theorem kln_of {i : Instr} {len : Nat} (hi : ∀ a b c e, i ≠ .tableswitch a b c e) (h : klenok i len = true) : len = kln i := by
  cases i <;> first | exact Nat.eq_of_beq_eq_true h | exact absurd rfl (hi _ _ _ _)
theorem km_all {m : Nat} (h : m < 288) : kmck m = true := by
  by_cases h0 : m < 48
  · exact List.all_eq_true.mp kmck_0 m (List.mem_range'_1.mpr ⟨by omega, by omega⟩)
  by_cases h1 : m < 96
  · exact List.all_eq_true.mp kmck_1 m (List.mem_range'_1.mpr ⟨by omega, by omega⟩)
  by_cases h2 : m < 144
  · exact List.all_eq_true.mp kmck_2 m (List.mem_range'_1.mpr ⟨by omega, by omega⟩)
  by_cases h3 : m < 192
  · exact List.all_eq_true.mp kmck_3 m (List.mem_range'_1.mpr ⟨by omega, by omega⟩)
  by_cases h4 : m < 240
  · exact List.all_eq_true.mp kmck_4 m (List.mem_range'_1.mpr ⟨by omega, by omega⟩)
  by_cases h5 : m < 288
  · exact List.all_eq_true.mp kmck_5 m (List.mem_range'_1.mpr ⟨by omega, by omega⟩)
  omega
theorem kcxj_0 {m : Nat} (h1 : 0 ≤ m) (h2 : m < 16) : lw_tbl[kcw m]? = some (.code (ky m) (kby m) (kmax m) (kret m)) := by
  rcases (show m = 0 ∨ m = 1 ∨ m = 2 ∨ m = 3 ∨ m = 4 ∨ m = 5 ∨ m = 6 ∨ m = 7 ∨ m = 8 ∨ m = 9 ∨ m = 10 ∨ m = 11 ∨ m = 12 ∨ m = 13 ∨ m = 14 ∨ m = 15 by omega) with rfl | rfl | rfl | rfl | rfl | rfl | rfl | rfl | rfl | rfl | rfl | rfl | rfl | rfl | rfl | rfl
  · exact kcx_0
  · exact kcx_1
  · exact kcx_2
  · exact kcx_3
  · exact kcx_4
  · exact kcx_5
  · exact kcx_6
  · exact kcx_7
  · exact kcx_8
  · exact kcx_9
  · exact kcx_10
  · exact kcx_11
  · exact kcx_12
  · exact kcx_13
  · exact kcx_14
  · exact kcx_15
theorem kcxj_16 {m : Nat} (h1 : 16 ≤ m) (h2 : m < 32) : lw_tbl[kcw m]? = some (.code (ky m) (kby m) (kmax m) (kret m)) := by
  rcases (show m = 16 ∨ m = 17 ∨ m = 18 ∨ m = 19 ∨ m = 20 ∨ m = 21 ∨ m = 22 ∨ m = 23 ∨ m = 24 ∨ m = 25 ∨ m = 26 ∨ m = 27 ∨ m = 28 ∨ m = 29 ∨ m = 30 ∨ m = 31 by omega) with rfl | rfl | rfl | rfl | rfl | rfl | rfl | rfl | rfl | rfl | rfl | rfl | rfl | rfl | rfl | rfl
  · exact kcx_16
  · exact kcx_17
  · exact kcx_18
  · exact kcx_19
  · exact kcx_20
  · exact kcx_21
  · exact kcx_22
  · exact kcx_23
  · exact kcx_24
  · exact kcx_25
  · exact kcx_26
  · exact kcx_27
  · exact kcx_28
  · exact kcx_29
  · exact kcx_30
  · exact kcx_31
theorem kcxj_32 {m : Nat} (h1 : 32 ≤ m) (h2 : m < 48) : lw_tbl[kcw m]? = some (.code (ky m) (kby m) (kmax m) (kret m)) := by
  rcases (show m = 32 ∨ m = 33 ∨ m = 34 ∨ m = 35 ∨ m = 36 ∨ m = 37 ∨ m = 38 ∨ m = 39 ∨ m = 40 ∨ m = 41 ∨ m = 42 ∨ m = 43 ∨ m = 44 ∨ m = 45 ∨ m = 46 ∨ m = 47 by omega) with rfl | rfl | rfl | rfl | rfl | rfl | rfl | rfl | rfl | rfl | rfl | rfl | rfl | rfl | rfl | rfl
  · exact kcx_32
  · exact kcx_33
  · exact kcx_34
  · exact kcx_35
  · exact kcx_36
  · exact kcx_37
  · exact kcx_38
  · exact kcx_39
  · exact kcx_40
  · exact kcx_41
  · exact kcx_42
  · exact kcx_43
  · exact kcx_44
  · exact kcx_45
  · exact kcx_46
  · exact kcx_47
theorem kcxj_48 {m : Nat} (h1 : 48 ≤ m) (h2 : m < 64) : lw_tbl[kcw m]? = some (.code (ky m) (kby m) (kmax m) (kret m)) := by
  rcases (show m = 48 ∨ m = 49 ∨ m = 50 ∨ m = 51 ∨ m = 52 ∨ m = 53 ∨ m = 54 ∨ m = 55 ∨ m = 56 ∨ m = 57 ∨ m = 58 ∨ m = 59 ∨ m = 60 ∨ m = 61 ∨ m = 62 ∨ m = 63 by omega) with rfl | rfl | rfl | rfl | rfl | rfl | rfl | rfl | rfl | rfl | rfl | rfl | rfl | rfl | rfl | rfl
  · exact kcx_48
  · exact kcx_49
  · exact kcx_50
  · exact kcx_51
  · exact kcx_52
  · exact kcx_53
  · exact kcx_54
  · exact kcx_55
  · exact kcx_56
  · exact kcx_57
  · exact kcx_58
  · exact kcx_59
  · exact kcx_60
  · exact kcx_61
  · exact kcx_62
  · exact kcx_63
theorem kcxj_64 {m : Nat} (h1 : 64 ≤ m) (h2 : m < 80) : lw_tbl[kcw m]? = some (.code (ky m) (kby m) (kmax m) (kret m)) := by
  rcases (show m = 64 ∨ m = 65 ∨ m = 66 ∨ m = 67 ∨ m = 68 ∨ m = 69 ∨ m = 70 ∨ m = 71 ∨ m = 72 ∨ m = 73 ∨ m = 74 ∨ m = 75 ∨ m = 76 ∨ m = 77 ∨ m = 78 ∨ m = 79 by omega) with rfl | rfl | rfl | rfl | rfl | rfl | rfl | rfl | rfl | rfl | rfl | rfl | rfl | rfl | rfl | rfl
  · exact kcx_64
  · exact kcx_65
  · exact kcx_66
  · exact kcx_67
  · exact kcx_68
  · exact kcx_69
  · exact kcx_70
  · exact kcx_71
  · exact kcx_72
  · exact kcx_73
  · exact kcx_74
  · exact kcx_75
  · exact kcx_76
  · exact kcx_77
  · exact kcx_78
  · exact kcx_79
theorem kcxj_80 {m : Nat} (h1 : 80 ≤ m) (h2 : m < 96) : lw_tbl[kcw m]? = some (.code (ky m) (kby m) (kmax m) (kret m)) := by
  rcases (show m = 80 ∨ m = 81 ∨ m = 82 ∨ m = 83 ∨ m = 84 ∨ m = 85 ∨ m = 86 ∨ m = 87 ∨ m = 88 ∨ m = 89 ∨ m = 90 ∨ m = 91 ∨ m = 92 ∨ m = 93 ∨ m = 94 ∨ m = 95 by omega) with rfl | rfl | rfl | rfl | rfl | rfl | rfl | rfl | rfl | rfl | rfl | rfl | rfl | rfl | rfl | rfl
  · exact kcx_80
  · exact kcx_81
  · exact kcx_82
  · exact kcx_83
  · exact kcx_84
  · exact kcx_85
  · exact kcx_86
  · exact kcx_87
  · exact kcx_88
  · exact kcx_89
  · exact kcx_90
  · exact kcx_91
  · exact kcx_92
  · exact kcx_93
  · exact kcx_94
  · exact kcx_95
theorem kcxj_96 {m : Nat} (h1 : 96 ≤ m) (h2 : m < 112) : lw_tbl[kcw m]? = some (.code (ky m) (kby m) (kmax m) (kret m)) := by
  rcases (show m = 96 ∨ m = 97 ∨ m = 98 ∨ m = 99 ∨ m = 100 ∨ m = 101 ∨ m = 102 ∨ m = 103 ∨ m = 104 ∨ m = 105 ∨ m = 106 ∨ m = 107 ∨ m = 108 ∨ m = 109 ∨ m = 110 ∨ m = 111 by omega) with rfl | rfl | rfl | rfl | rfl | rfl | rfl | rfl | rfl | rfl | rfl | rfl | rfl | rfl | rfl | rfl
  · exact kcx_96
  · exact kcx_97
  · exact kcx_98
  · exact kcx_99
  · exact kcx_100
  · exact kcx_101
  · exact kcx_102
  · exact kcx_103
  · exact kcx_104
  · exact kcx_105
  · exact kcx_106
  · exact kcx_107
  · exact kcx_108
  · exact kcx_109
  · exact kcx_110
  · exact kcx_111
theorem kcxj_112 {m : Nat} (h1 : 112 ≤ m) (h2 : m < 128) : lw_tbl[kcw m]? = some (.code (ky m) (kby m) (kmax m) (kret m)) := by
  rcases (show m = 112 ∨ m = 113 ∨ m = 114 ∨ m = 115 ∨ m = 116 ∨ m = 117 ∨ m = 118 ∨ m = 119 ∨ m = 120 ∨ m = 121 ∨ m = 122 ∨ m = 123 ∨ m = 124 ∨ m = 125 ∨ m = 126 ∨ m = 127 by omega) with rfl | rfl | rfl | rfl | rfl | rfl | rfl | rfl | rfl | rfl | rfl | rfl | rfl | rfl | rfl | rfl
  · exact kcx_112
  · exact kcx_113
  · exact kcx_114
  · exact kcx_115
  · exact kcx_116
  · exact kcx_117
  · exact kcx_118
  · exact kcx_119
  · exact kcx_120
  · exact kcx_121
  · exact kcx_122
  · exact kcx_123
  · exact kcx_124
  · exact kcx_125
  · exact kcx_126
  · exact kcx_127
theorem kcxj_128 {m : Nat} (h1 : 128 ≤ m) (h2 : m < 144) : lw_tbl[kcw m]? = some (.code (ky m) (kby m) (kmax m) (kret m)) := by
  rcases (show m = 128 ∨ m = 129 ∨ m = 130 ∨ m = 131 ∨ m = 132 ∨ m = 133 ∨ m = 134 ∨ m = 135 ∨ m = 136 ∨ m = 137 ∨ m = 138 ∨ m = 139 ∨ m = 140 ∨ m = 141 ∨ m = 142 ∨ m = 143 by omega) with rfl | rfl | rfl | rfl | rfl | rfl | rfl | rfl | rfl | rfl | rfl | rfl | rfl | rfl | rfl | rfl
  · exact kcx_128
  · exact kcx_129
  · exact kcx_130
  · exact kcx_131
  · exact kcx_132
  · exact kcx_133
  · exact kcx_134
  · exact kcx_135
  · exact kcx_136
  · exact kcx_137
  · exact kcx_138
  · exact kcx_139
  · exact kcx_140
  · exact kcx_141
  · exact kcx_142
  · exact kcx_143
theorem kcxj_144 {m : Nat} (h1 : 144 ≤ m) (h2 : m < 160) : lw_tbl[kcw m]? = some (.code (ky m) (kby m) (kmax m) (kret m)) := by
  rcases (show m = 144 ∨ m = 145 ∨ m = 146 ∨ m = 147 ∨ m = 148 ∨ m = 149 ∨ m = 150 ∨ m = 151 ∨ m = 152 ∨ m = 153 ∨ m = 154 ∨ m = 155 ∨ m = 156 ∨ m = 157 ∨ m = 158 ∨ m = 159 by omega) with rfl | rfl | rfl | rfl | rfl | rfl | rfl | rfl | rfl | rfl | rfl | rfl | rfl | rfl | rfl | rfl
  · exact kcx_144
  · exact kcx_145
  · exact kcx_146
  · exact kcx_147
  · exact kcx_148
  · exact kcx_149
  · exact kcx_150
  · exact kcx_151
  · exact kcx_152
  · exact kcx_153
  · exact kcx_154
  · exact kcx_155
  · exact kcx_156
  · exact kcx_157
  · exact kcx_158
  · exact kcx_159
theorem kcxj_160 {m : Nat} (h1 : 160 ≤ m) (h2 : m < 176) : lw_tbl[kcw m]? = some (.code (ky m) (kby m) (kmax m) (kret m)) := by
  rcases (show m = 160 ∨ m = 161 ∨ m = 162 ∨ m = 163 ∨ m = 164 ∨ m = 165 ∨ m = 166 ∨ m = 167 ∨ m = 168 ∨ m = 169 ∨ m = 170 ∨ m = 171 ∨ m = 172 ∨ m = 173 ∨ m = 174 ∨ m = 175 by omega) with rfl | rfl | rfl | rfl | rfl | rfl | rfl | rfl | rfl | rfl | rfl | rfl | rfl | rfl | rfl | rfl
  · exact kcx_160
  · exact kcx_161
  · exact kcx_162
  · exact kcx_163
  · exact kcx_164
  · exact kcx_165
  · exact kcx_166
  · exact kcx_167
  · exact kcx_168
  · exact kcx_169
  · exact kcx_170
  · exact kcx_171
  · exact kcx_172
  · exact kcx_173
  · exact kcx_174
  · exact kcx_175
theorem kcxj_176 {m : Nat} (h1 : 176 ≤ m) (h2 : m < 192) : lw_tbl[kcw m]? = some (.code (ky m) (kby m) (kmax m) (kret m)) := by
  rcases (show m = 176 ∨ m = 177 ∨ m = 178 ∨ m = 179 ∨ m = 180 ∨ m = 181 ∨ m = 182 ∨ m = 183 ∨ m = 184 ∨ m = 185 ∨ m = 186 ∨ m = 187 ∨ m = 188 ∨ m = 189 ∨ m = 190 ∨ m = 191 by omega) with rfl | rfl | rfl | rfl | rfl | rfl | rfl | rfl | rfl | rfl | rfl | rfl | rfl | rfl | rfl | rfl
  · exact kcx_176
  · exact kcx_177
  · exact kcx_178
  · exact kcx_179
  · exact kcx_180
  · exact kcx_181
  · exact kcx_182
  · exact kcx_183
  · exact kcx_184
  · exact kcx_185
  · exact kcx_186
  · exact kcx_187
  · exact kcx_188
  · exact kcx_189
  · exact kcx_190
  · exact kcx_191
theorem kcxj_192 {m : Nat} (h1 : 192 ≤ m) (h2 : m < 208) : lw_tbl[kcw m]? = some (.code (ky m) (kby m) (kmax m) (kret m)) := by
  rcases (show m = 192 ∨ m = 193 ∨ m = 194 ∨ m = 195 ∨ m = 196 ∨ m = 197 ∨ m = 198 ∨ m = 199 ∨ m = 200 ∨ m = 201 ∨ m = 202 ∨ m = 203 ∨ m = 204 ∨ m = 205 ∨ m = 206 ∨ m = 207 by omega) with rfl | rfl | rfl | rfl | rfl | rfl | rfl | rfl | rfl | rfl | rfl | rfl | rfl | rfl | rfl | rfl
  · exact kcx_192
  · exact kcx_193
  · exact kcx_194
  · exact kcx_195
  · exact kcx_196
  · exact kcx_197
  · exact kcx_198
  · exact kcx_199
  · exact kcx_200
  · exact kcx_201
  · exact kcx_202
  · exact kcx_203
  · exact kcx_204
  · exact kcx_205
  · exact kcx_206
  · exact kcx_207
theorem kcxj_208 {m : Nat} (h1 : 208 ≤ m) (h2 : m < 224) : lw_tbl[kcw m]? = some (.code (ky m) (kby m) (kmax m) (kret m)) := by
  rcases (show m = 208 ∨ m = 209 ∨ m = 210 ∨ m = 211 ∨ m = 212 ∨ m = 213 ∨ m = 214 ∨ m = 215 ∨ m = 216 ∨ m = 217 ∨ m = 218 ∨ m = 219 ∨ m = 220 ∨ m = 221 ∨ m = 222 ∨ m = 223 by omega) with rfl | rfl | rfl | rfl | rfl | rfl | rfl | rfl | rfl | rfl | rfl | rfl | rfl | rfl | rfl | rfl
  · exact kcx_208
  · exact kcx_209
  · exact kcx_210
  · exact kcx_211
  · exact kcx_212
  · exact kcx_213
  · exact kcx_214
  · exact kcx_215
  · exact kcx_216
  · exact kcx_217
  · exact kcx_218
  · exact kcx_219
  · exact kcx_220
  · exact kcx_221
  · exact kcx_222
  · exact kcx_223
theorem kcxj_224 {m : Nat} (h1 : 224 ≤ m) (h2 : m < 240) : lw_tbl[kcw m]? = some (.code (ky m) (kby m) (kmax m) (kret m)) := by
  rcases (show m = 224 ∨ m = 225 ∨ m = 226 ∨ m = 227 ∨ m = 228 ∨ m = 229 ∨ m = 230 ∨ m = 231 ∨ m = 232 ∨ m = 233 ∨ m = 234 ∨ m = 235 ∨ m = 236 ∨ m = 237 ∨ m = 238 ∨ m = 239 by omega) with rfl | rfl | rfl | rfl | rfl | rfl | rfl | rfl | rfl | rfl | rfl | rfl | rfl | rfl | rfl | rfl
  · exact kcx_224
  · exact kcx_225
  · exact kcx_226
  · exact kcx_227
  · exact kcx_228
  · exact kcx_229
  · exact kcx_230
  · exact kcx_231
  · exact kcx_232
  · exact kcx_233
  · exact kcx_234
  · exact kcx_235
  · exact kcx_236
  · exact kcx_237
  · exact kcx_238
  · exact kcx_239
theorem kcxj_240 {m : Nat} (h1 : 240 ≤ m) (h2 : m < 256) : lw_tbl[kcw m]? = some (.code (ky m) (kby m) (kmax m) (kret m)) := by
  rcases (show m = 240 ∨ m = 241 ∨ m = 242 ∨ m = 243 ∨ m = 244 ∨ m = 245 ∨ m = 246 ∨ m = 247 ∨ m = 248 ∨ m = 249 ∨ m = 250 ∨ m = 251 ∨ m = 252 ∨ m = 253 ∨ m = 254 ∨ m = 255 by omega) with rfl | rfl | rfl | rfl | rfl | rfl | rfl | rfl | rfl | rfl | rfl | rfl | rfl | rfl | rfl | rfl
  · exact kcx_240
  · exact kcx_241
  · exact kcx_242
  · exact kcx_243
  · exact kcx_244
  · exact kcx_245
  · exact kcx_246
  · exact kcx_247
  · exact kcx_248
  · exact kcx_249
  · exact kcx_250
  · exact kcx_251
  · exact kcx_252
  · exact kcx_253
  · exact kcx_254
  · exact kcx_255
theorem kcxj_256 {m : Nat} (h1 : 256 ≤ m) (h2 : m < 272) : lw_tbl[kcw m]? = some (.code (ky m) (kby m) (kmax m) (kret m)) := by
  rcases (show m = 256 ∨ m = 257 ∨ m = 258 ∨ m = 259 ∨ m = 260 ∨ m = 261 ∨ m = 262 ∨ m = 263 ∨ m = 264 ∨ m = 265 ∨ m = 266 ∨ m = 267 ∨ m = 268 ∨ m = 269 ∨ m = 270 ∨ m = 271 by omega) with rfl | rfl | rfl | rfl | rfl | rfl | rfl | rfl | rfl | rfl | rfl | rfl | rfl | rfl | rfl | rfl
  · exact kcx_256
  · exact kcx_257
  · exact kcx_258
  · exact kcx_259
  · exact kcx_260
  · exact kcx_261
  · exact kcx_262
  · exact kcx_263
  · exact kcx_264
  · exact kcx_265
  · exact kcx_266
  · exact kcx_267
  · exact kcx_268
  · exact kcx_269
  · exact kcx_270
  · exact kcx_271
theorem kcxj_272 {m : Nat} (h1 : 272 ≤ m) (h2 : m < 288) : lw_tbl[kcw m]? = some (.code (ky m) (kby m) (kmax m) (kret m)) := by
  rcases (show m = 272 ∨ m = 273 ∨ m = 274 ∨ m = 275 ∨ m = 276 ∨ m = 277 ∨ m = 278 ∨ m = 279 ∨ m = 280 ∨ m = 281 ∨ m = 282 ∨ m = 283 ∨ m = 284 ∨ m = 285 ∨ m = 286 ∨ m = 287 by omega) with rfl | rfl | rfl | rfl | rfl | rfl | rfl | rfl | rfl | rfl | rfl | rfl | rfl | rfl | rfl | rfl
  · exact kcx_272
  · exact kcx_273
  · exact kcx_274
  · exact kcx_275
  · exact kcx_276
  · exact kcx_277
  · exact kcx_278
  · exact kcx_279
  · exact kcx_280
  · exact kcx_281
  · exact kcx_282
  · exact kcx_283
  · exact kcx_284
  · exact kcx_285
  · exact kcx_286
  · exact kcx_287
theorem km_code {m : Nat} (h : m < 288) : Cond.code (ky m) (kby m) (kmax m) (kret m) ∈ kT := by
  refine List.mem_filter.mpr ⟨List.mem_of_getElem? (i := kcw m) ?_, rfl⟩
  by_cases h0 : m < 16
  · exact kcxj_0 (by omega) h0
  by_cases h16 : m < 32
  · exact kcxj_16 (by omega) h16
  by_cases h32 : m < 48
  · exact kcxj_32 (by omega) h32
  by_cases h48 : m < 64
  · exact kcxj_48 (by omega) h48
  by_cases h64 : m < 80
  · exact kcxj_64 (by omega) h64
  by_cases h80 : m < 96
  · exact kcxj_80 (by omega) h80
  by_cases h96 : m < 112
  · exact kcxj_96 (by omega) h96
  by_cases h112 : m < 128
  · exact kcxj_112 (by omega) h112
  by_cases h128 : m < 144
  · exact kcxj_128 (by omega) h128
  by_cases h144 : m < 160
  · exact kcxj_144 (by omega) h144
  by_cases h160 : m < 176
  · exact kcxj_160 (by omega) h160
  by_cases h176 : m < 192
  · exact kcxj_176 (by omega) h176
  by_cases h192 : m < 208
  · exact kcxj_192 (by omega) h192
  by_cases h208 : m < 224
  · exact kcxj_208 (by omega) h208
  by_cases h224 : m < 240
  · exact kcxj_224 (by omega) h224
  by_cases h240 : m < 256
  · exact kcxj_240 (by omega) h240
  by_cases h256 : m < 272
  · exact kcxj_256 (by omega) h256
  by_cases h272 : m < 288
  · exact kcxj_272 (by omega) h272
  omega
def kbck (m pc : Nat) : Bool := match kcodeT m pc with
  | some (.if_icmp _ off, _) => decide (0 ≤ (pc : Int) + off)
  | some (.ifCond _ off, _) => decide (0 ≤ (pc : Int) + off)
  | _ => true
theorem kbck_all : (List.range 289).all (fun m => (List.range (kcl m)).all (kbck m)) = true := by decide +kernel
theorem kb_ok {m pc len : Nat} {i : Instr} (h : kcode m pc = some (i, len)) : kbck m pc = true ∧ kcodeT m pc = some (i, len) := by
  unfold kcode at h
  cases hg : Nat.blt m 289 && Nat.blt pc (kcl m)
  · rw [hg] at h; cases h
  · rw [hg] at h
    simp only [Bool.and_eq_true, Nat.blt_eq] at hg
    exact ⟨List.all_eq_true.mp (List.all_eq_true.mp kbck_all m (List.mem_range.mpr hg.1)) pc (List.mem_range.mpr hg.2), h⟩
theorem kb_icmp {m pc len : Nat} {c : ClassFile.Cond} {off : Int} (h : kcode m pc = some (.if_icmp c off, len)) : ∃ t : Nat, (pc : Int) + off = (t : Int) := by
  obtain ⟨h1, h2⟩ := kb_ok h
  simp only [kbck, h2, decide_eq_true_eq] at h1
  exact ⟨((pc : Int) + off).toNat, by omega⟩
theorem kb_if {m pc len : Nat} {c : ClassFile.Cond} {off : Int} (h : kcode m pc = some (.ifCond c off, len)) : ∃ t : Nat, (pc : Int) + off = (t : Int) := by
  obtain ⟨h1, h2⟩ := kb_ok h
  simp only [kbck, h2, decide_eq_true_eq] at h1
  exact ⟨((pc : Int) + off).toNat, by omega⟩
theorem km_ok {m : Nat} (h : m < 288) : Cond.code (ky m) (kby m) (kmax m) (kret m) ∈ kT ∧ Cond.initialized (ky m).cls ∈ kT ∧ (ky m).cls = kR (kown m) ∧ (ky m).cls ≠ "java/lang/invoke/MethodHandle" ∧ (ky m).cls ≠ "java/lang/invoke/VarHandle" ∧ (parseMethodDescriptor (ky m).desc).map (fun d => d.parameters.length) = some (knar m) ∧ plainFor (ky m) = true ∧ kmax m ≤ 45 := by
  have hx := km_all h
  simp only [kmck, Bool.and_eq_true] at hx
  obtain ⟨⟨⟨⟨⟨⟨a2, a3⟩, a4⟩, a5⟩, a6⟩, a7⟩, a8⟩ := hx
  exact ⟨km_code h, kw_in a2, of_decide_eq_true a3, of_decide_eq_true a4, of_decide_eq_true a5, of_decide_eq_true a6, a7, Nat.le_of_ble_eq_true a8⟩
theorem km_v {m : Nat} (h : m < 288) (hv : kisv m = true) : Cond.instanceMethod (ky m) ∈ kT ∧ Cond.selects (ky m).cls (ky m) (ky m) ∈ kT := by
  have hx := List.all_eq_true.mp kmckv_all m (List.mem_range.mpr h)
  simp only [kmckv, Bool.and_eq_true, hv, Bool.not_true, Bool.false_or] at hx
  exact ⟨kw_in hx.1.1.1, kw_in hx.1.1.2⟩
theorem km_s {m : Nat} (h : m < 288) (hv : kiss m = true) : Cond.static (ky m) ∈ kT := by
  have hx := List.all_eq_true.mp kmckv_all m (List.mem_range.mpr h)
  simp only [kmckv, Bool.and_eq_true, hv, Bool.not_true, Bool.false_or] at hx
  exact kw_in hx.1.2
theorem km_i {m : Nat} (h : m < 288) (hv : kini m = true) : Cond.instanceMethod (ky m) ∈ kT ∧ (ky m).name = "<init>" ∧ kret m = none := by
  have hx := List.all_eq_true.mp kmckv_all m (List.mem_range.mpr h)
  simp only [kmckv, Bool.and_eq_true, hv, Bool.not_true, Bool.false_or] at hx
  exact ⟨kw_in hx.2.1.1, of_decide_eq_true hx.2.1.2, of_decide_eq_true hx.2.2⟩
def kQ (b : Nat) (z : Nat → Nat) (dA : Nat → ClassId) (D : va_G) (r : Option Value) (w' : KW) : Array Value → State → Outcome → State → Prop := fun _ st oc t => (oc = .returned (r.map (kpi b z)) ∧ va_P D vwCl (kws b z dA w') t.heap) ∧ va_F (kA b) st t
/-- from here the machine comes to the method's end, with r, over the world w' -/
def kGo (xs : List Int32) (l : Launch) (D : va_G) (dA : Nat → ClassId) (b : Nat) (z : Nat → Nat) (d mid : Nat) (pc : Nat) (L : KL) (st : List Value) (w : KW) (r : Option Value) (w' : KW) : Prop :=
  ∀ (p : Program) (e : Env) (R : Room) (s : State) (m : MethodId) (args : Array Value) (below : List Frame) (meth : Method) (c : Code) (n0 s0 cells slots mc ms : Nat), kCx xs D dA b z d mid p R s m args meth c → L.length = kmax mid → n0 + cells = w.length → s0 + slots = ksl w → n0 + mc = w'.length → s0 + ms = ksl w' → R.cells = mc → R.slots = ms → s.heap.size = b + n0 →
    ∀ (H : Heap) (locs : List Loc) (ls : Array Slot), va_P D vwCl (kws b z dA w) H → va_S (kA b) s.heap H locs → kLh b z ls L →
      W p l e R s m args below meth c H locs cells slots (MQ below (kQ b z dA D r w') args s mc ms (kA b)) (F0 m pc ls (st.map (kpi b z)))
theorem kclr_len (ps : List Nat) : ∀ L : KL, (kclr ps L).length = L.length := by
  induction ps with
  | nil => intro L; rfl
  | cons i ps ih => intro L; rw [kclr, ih, kclr1_len]
section KGO
variable {xs : List Int32} {l : Launch} {D : va_G} {dA : Nat → ClassId} {b : Nat} {z : Nat → Nat} {d mid pc : Nat} {L : KL} {st : List Value} {w : KW}
/-- how large the heap is -/
theorem kW_size {p : Program} {e : Env} {R : Room} {s : State} {m : MethodId} {args : Array Value} {below : List Frame} {meth : Method} {c : Code} {H : Heap} {locs : List Loc} {n0 cells slots : Nat} {Q : State → Prop} {g : JFrame} (hP : va_P D vwCl (kws b z dA w) H) (hS : va_S (kA b) s.heap H locs) (h1 : n0 + cells = w.length) (h2 : s.heap.size = b + n0) (k : H.size = b + w.length → W p l e R s m args below meth c H locs cells slots Q g) : W p l e R s m args below meth c H locs cells slots Q g := by
  intro T hT X
  refine k ?_ T hT X
  have a1 : H.size ≤ s.heap.size + cells := by rw [← hT]; exact X.heapSize
  have a2 := hS.1
  by_cases hw : w.length = 0
  · omega
  · obtain ⟨y, hy⟩ : ∃ y, w[w.length - 1]? = some y := ⟨_, List.getElem?_eq_getElem (by omega)⟩
    have a3 : b + (w.length - 1) < H.size := (hP _ _ (kws_get hy)).lt
    omega
theorem kdone {Q : Option Value → KW → Prop} {pc' : Nat} {ps : List Nat} {L' : KL} {st' : List Value} {w1 : KW} (g : ∃ r w', Q r w' ∧ w1.length ≤ w'.length ∧ ksl w1 ≤ ksl w' ∧ kGo xs l D dA b z d mid pc' (kclr ps L') st' w1 r w') (hst : kSt xs l D dA b z d mid pc L st w pc' L' st' w1) (e1 : w1.length = w.length) (e2 : ksl w1 = ksl w) (e3 : L'.length = L.length) : ∃ r w', Q r w' ∧ w.length ≤ w'.length ∧ ksl w ≤ ksl w' ∧ kGo xs l D dA b z d mid pc L st w r w' := by
  obtain ⟨r, w', hQ, g1, g2, g⟩ := g
  refine ⟨r, w', hQ, by omega, by omega, ?_⟩
  intro p e R s m args below meth c n0 s0 cells slots mc ms C hLn h1 h2 h3 h4 h5 h6 h7 H locs ls hP hS hL
  exact hst p e R s m args below meth c _ cells slots C hLn (by omega) (by omega) H locs ls hP hS hL (fun H' locs' ls' hP' hS' hL' => g p e R s m args below meth c n0 s0 cells slots mc ms C (by rw [kclr_len, e3]; exact hLn) (by omega) (by omega) h3 h4 h5 h6 h7 H' locs' ls' hP' hS' (hL'.clr ps))
theorem knew_pi (b : Nat) (z : Nat → Nat) {c : Nat} (h : c < 13) : (knew c).map (kpi b z) = knew c := match c, h with
  | 0, _ => rfl
  | 1, _ => rfl
  | 2, _ => rfl
  | 3, _ => rfl
  | 4, _ => rfl
  | 5, _ => rfl
  | 6, _ => rfl
  | 7, _ => rfl
  | 8, _ => rfl
  | 9, _ => rfl
  | 10, _ => rfl
  | 11, _ => rfl
  | 12, _ => rfl
  | n + 13, h => absurd h (by omega)
/-- the new cell's place -/
theorem kplace {ws1 : KW} {q : Nat} {el : va_E} {H1 : Heap} (hP1 : va_P D vwCl (kws b z dA ws1 ++ [(q, el)]) H1) (hD1 : va_D (kA b) (kws b z dA ws1 ++ [(q, el)])) (hz : H1.size ≤ b + ws1.length + 1) : q = b + ws1.length := by
  have hlen : (kws b z dA ws1).length = ws1.length := by simp [kws]
  have hq : (kws b z dA ws1 ++ [(q, el)])[ws1.length]? = some (q, el) := by rw [List.getElem?_append_right (by omega), hlen]; simp
  have h1 : q < H1.size := (hP1 _ _ hq).lt
  have h2 : b ≤ q := hD1.2 _ _ hq
  have h3 : ¬ q < b + ws1.length := by
    intro h
    obtain ⟨y, hy⟩ : ∃ y, ws1[q - b]? = some y := ⟨_, List.getElem?_eq_getElem (by omega)⟩
    have hk : (kws b z dA ws1 ++ [(q, el)])[q - b]? = some (b + (q - b), kEl b z dA y) := by rw [List.getElem?_append_left (by omega)]; exact kws_get hy
    have := hD1.1 _ _ _ _ hk hq (by show b + (q - b) = q; omega)
    omega
  omega
theorem knew_go {Q : Option Value → KW → Prop} {k ci : Nat} {ps : List Nat} (hc : kclk (kown mid) k = some ci) (hd : decode (kby mid) pc = .ok (.new k, 3)) (g : ∃ r w', Q r w' ∧ (w ++ [Sum.inl (ci, knew ci)]).length ≤ List.length w' ∧ ksl (w ++ [.inl (ci, knew ci)]) ≤ ksl w' ∧ kGo xs l D dA b z d mid (pc + 3) (kclr ps L) (.ref w.length :: st) (w ++ [.inl (ci, knew ci)]) r w') : ∃ r w', Q r w' ∧ w.length ≤ w'.length ∧ ksl w ≤ ksl w' ∧ kGo xs l D dA b z d mid pc L st w r w' := by
  obtain ⟨r, w', hQ, g1, g2, g⟩ := g
  obtain ⟨o1, o2⟩ := kguard hc
  have h3 := kall_at kcck_all o1 o2
  simp only [kcck, hc, Bool.and_eq_true, Nat.blt_eq] at h3
  obtain ⟨⟨⟨⟨⟨hci, hl⟩, -⟩, -⟩, -⟩, -⟩ := h3
  obtain ⟨n1, n2, n3, n4⟩ := kx_rest hci
  have e1 : kslt (.inl (ci, knew ci)) = kN ci := n1
  rw [ksl_app, e1] at g2
  rw [List.length_append] at g1
  have g1 : w.length + 1 ≤ w'.length := g1
  refine ⟨r, w', hQ, by omega, by omega, ?_⟩
  intro p e R s m args below meth c n0 s0 cells slots mc ms C hLn h1 h2 h3 h4 h5 h6 h7 H locs ls hP hS hL
  obtain ⟨hx, hb, hr, hlk, hml, hown, hts, hin, hK, hZ, hfr, hlo⟩ := id C
  refine va_new (ci := ci) (fs := knew ci) (C := kC ci) (T := kF ci) (N := kN ci) hx hb hts (kx_in hci) (kFt ci) (kx_ty hci) hown (hts _ (kw_in hl)) (hts _ n2) (hts _ n3) hK hP (kws_D b z dA w) hS (fun q hq => by show b ≤ q; omega) (kcl_vw hci) (kx_df hci) (by omega) (by omega) hd (fun q H1 hP1 hD1 hS1 => ?_)
  intro T hT X
  have hz : H1.size ≤ b + w.length + 1 := by
    have := X.heapSize
    rw [hT] at this
    omega
  have hq := kplace hP1 hD1 hz
  subst hq
  refine g p e R s m args below meth c n0 s0 (cells + 1) (slots + kN ci) mc ms C (by rw [kclr_len]; exact hLn) (by rw [List.length_append]; simp; omega) (by rw [ksl_app, e1]; omega) h3 h4 h5 h6 h7 H1 locs ls ?_ hS1 (hL.clr ps) T hT X
  rw [kws_app]
  show va_P D vwCl (kws b z dA w ++ [(b + w.length, .inr (ci, (knew ci).map (kpi b z)))]) H1
  rw [knew_pi b z hci]
  exact hP1
theorem kRA_eq {s : State} {t : Nat} {cA : ClassId} (ht : t < 6) (hK : va_K D vwCl (ktys dA) s) (h : va_RA s cA (kty t)) : cA = dA t := by
  have h1 : ∀ (k : Nat) (q : ClassId × FieldType), (ktys dA)[k]? = some q → va_RA s q.1 q.2 := fun k q hq => (hK.2 k q hq).2
  match t, ht, h with
  | 0, _, h => exact Option.some.inj (h.symm.trans (h1 0 _ rfl))
  | 1, _, h => exact Option.some.inj (h.symm.trans (h1 1 _ rfl))
  | 2, _, h => exact Option.some.inj (h.symm.trans (h1 2 _ rfl))
  | 3, _, h => exact Option.some.inj (h.symm.trans (h1 3 _ rfl))
  | 4, _, h =>
    obtain ⟨_, _, _, _, _, a⟩ := h
    obtain ⟨_, _, _, _, _, a'⟩ := h1 4 _ rfl
    exact Option.some.inj (a.symm.trans a')
  | 5, _, h =>
    obtain ⟨_, _, _, _, _, a⟩ := h
    obtain ⟨_, _, _, _, _, a'⟩ := h1 5 _ rfl
    exact Option.some.inj (a.symm.trans a')
  | n + 6, ht, _ => omega
theorem krep {α : Type} (n : Nat) (x : α) : (fun j => (List.replicate n x).getD j x) = fun _ => x := by
  funext j
  simp only [List.getD_eq_getElem?_getD, List.getElem?_replicate]
  split <;> rfl
theorem kslt_new (t n : Nat) : kslt (kanew t n) = n := by
  unfold kanew
  split <;> simp [kslt]
theorem kEl_new (t n : Nat) (ht : t < 6) : kEl b z dA (kanew t n) = .inl (dA t, n, (match t with
  | 1 => .inr (.inl (fun _ => 0))
  | 4 => .inr (.inr (.inr (.inr (fun _ => none))))
  | 5 => .inr (.inr (.inr (.inr (fun _ => none))))
  | _ => .inl (fun _ => 0))) := by
  have e0 := krep n (0 : Int32)
  have e1 := krep n (0 : Int64)
  have e2 : (fun j => ((List.replicate n (none : Option Nat)).getD j none).map (fun i => b + i)) = fun _ => none := by
    have := krep n (none : Option Nat)
    funext j
    have h : (List.replicate n (none : Option Nat)).getD j none = none := congrFun this j
    rw [h]
    rfl
  match t, ht with
  | 0, _ => simp only [kanew, kEl, List.length_replicate, e0]
  | 1, _ => simp only [kanew, kEl, List.length_replicate, e1]
  | 2, _ => simp only [kanew, kEl, List.length_replicate, e0]
  | 3, _ => simp only [kanew, kEl, List.length_replicate, e0]
  | 4, _ => simp only [kanew, kEl, List.length_replicate, e2]
  | 5, _ => simp only [kanew, kEl, List.length_replicate, e2]
  | n + 6, h => omega
theorem knewa_i {Q : Option Value → KW → Prop} {n : Int32} {ps : List Nat} (hn : ¬ n < 0) (hm : n.toNatClampNeg ≤ 100000) (hd : decode (kby mid) pc = .ok (.newarray .int, 2)) (g : ∃ r w', Q r w' ∧ (w ++ [kanew 0 n.toNatClampNeg]).length ≤ w'.length ∧ ksl (w ++ [kanew 0 n.toNatClampNeg]) ≤ ksl w' ∧ kGo xs l D dA b z d mid (pc + 2) (kclr ps L) (.ref w.length :: st) (w ++ [kanew 0 n.toNatClampNeg]) r w') : ∃ r w', Q r w' ∧ w.length ≤ w'.length ∧ ksl w ≤ ksl w' ∧ kGo xs l D dA b z d mid pc L (.int n :: st) w r w' := by
  obtain ⟨r, w', hQ, g1, g2, g⟩ := g
  rw [ksl_app, kslt_new] at g2
  rw [List.length_append] at g1
  have g1 : w.length + 1 ≤ w'.length := g1
  refine ⟨r, w', hQ, by omega, by omega, ?_⟩
  intro p e R s m args below meth c n0 s0 cells slots mc ms C hLn h1 h2 h3 h4 h5 h6 h7 H locs ls hP hS hL
  obtain ⟨hx, hb, hr, hlk, hml, hown, hts, hin, hK, hZ, hfr, hlo⟩ := id C
  refine va_newa (atype := .int) (ty := kty 0) (a0 := (n.toNatClampNeg, .inl (fun _ => 0))) hx hb (hts _ (kw_in kack_0)) rfl hK hP (kws_D b z dA w) hS (fun q hq => by show b ≤ q; omega) (fun _ => rfl) hn rfl (by simp only [kty, componentBytes]; omega) (by omega) (by omega) hd (fun q cA H1 hK1 hP1 hD1 hS1 => ?_)
  have hc : cA = dA 0 := kRA_eq (by omega) hK (hK1.2 6 (cA, kty 0) rfl).2
  subst hc
  intro T hT X
  have hz : H1.size ≤ b + w.length + 1 := by
    have := X.heapSize
    rw [hT] at this
    omega
  have hq := kplace hP1 hD1 hz
  subst hq
  refine g p e R s m args below meth c n0 s0 (cells + 1) (slots + n.toNatClampNeg) mc ms C (by rw [kclr_len]; exact hLn) (by rw [List.length_append]; simp; omega) (by rw [ksl_app, kslt_new]; omega) h3 h4 h5 h6 h7 H1 locs ls ?_ hS1 (hL.clr ps) T hT X
  rw [kws_app, kEl_new _ _ (by omega)]
  exact hP1
theorem knewa_l {Q : Option Value → KW → Prop} {n : Int32} {ps : List Nat} (hn : ¬ n < 0) (hm : n.toNatClampNeg ≤ 100000) (hd : decode (kby mid) pc = .ok (.newarray .long, 2)) (g : ∃ r w', Q r w' ∧ (w ++ [kanew 1 n.toNatClampNeg]).length ≤ w'.length ∧ ksl (w ++ [kanew 1 n.toNatClampNeg]) ≤ ksl w' ∧ kGo xs l D dA b z d mid (pc + 2) (kclr ps L) (.ref w.length :: st) (w ++ [kanew 1 n.toNatClampNeg]) r w') : ∃ r w', Q r w' ∧ w.length ≤ w'.length ∧ ksl w ≤ ksl w' ∧ kGo xs l D dA b z d mid pc L (.int n :: st) w r w' := by
  obtain ⟨r, w', hQ, g1, g2, g⟩ := g
  rw [ksl_app, kslt_new] at g2
  rw [List.length_append] at g1
  have g1 : w.length + 1 ≤ w'.length := g1
  refine ⟨r, w', hQ, by omega, by omega, ?_⟩
  intro p e R s m args below meth c n0 s0 cells slots mc ms C hLn h1 h2 h3 h4 h5 h6 h7 H locs ls hP hS hL
  obtain ⟨hx, hb, hr, hlk, hml, hown, hts, hin, hK, hZ, hfr, hlo⟩ := id C
  refine va_newa (atype := .long) (ty := kty 1) (a0 := (n.toNatClampNeg, .inr (.inl (fun _ => 0)))) hx hb (hts _ (kw_in kack_1)) rfl hK hP (kws_D b z dA w) hS (fun q hq => by show b ≤ q; omega) (fun _ => rfl) hn rfl (by simp only [kty, componentBytes]; omega) (by omega) (by omega) hd (fun q cA H1 hK1 hP1 hD1 hS1 => ?_)
  have hc : cA = dA 1 := kRA_eq (by omega) hK (hK1.2 6 (cA, kty 1) rfl).2
  subst hc
  intro T hT X
  have hz : H1.size ≤ b + w.length + 1 := by
    have := X.heapSize
    rw [hT] at this
    omega
  have hq := kplace hP1 hD1 hz
  subst hq
  refine g p e R s m args below meth c n0 s0 (cells + 1) (slots + n.toNatClampNeg) mc ms C (by rw [kclr_len]; exact hLn) (by rw [List.length_append]; simp; omega) (by rw [ksl_app, kslt_new]; omega) h3 h4 h5 h6 h7 H1 locs ls ?_ hS1 (hL.clr ps) T hT X
  rw [kws_app, kEl_new _ _ (by omega)]
  exact hP1
theorem knewa_b {Q : Option Value → KW → Prop} {n : Int32} {ps : List Nat} (hn : ¬ n < 0) (hm : n.toNatClampNeg ≤ 100000) (hd : decode (kby mid) pc = .ok (.newarray .byte, 2)) (g : ∃ r w', Q r w' ∧ (w ++ [kanew 2 n.toNatClampNeg]).length ≤ w'.length ∧ ksl (w ++ [kanew 2 n.toNatClampNeg]) ≤ ksl w' ∧ kGo xs l D dA b z d mid (pc + 2) (kclr ps L) (.ref w.length :: st) (w ++ [kanew 2 n.toNatClampNeg]) r w') : ∃ r w', Q r w' ∧ w.length ≤ w'.length ∧ ksl w ≤ ksl w' ∧ kGo xs l D dA b z d mid pc L (.int n :: st) w r w' := by
  obtain ⟨r, w', hQ, g1, g2, g⟩ := g
  rw [ksl_app, kslt_new] at g2
  rw [List.length_append] at g1
  have g1 : w.length + 1 ≤ w'.length := g1
  refine ⟨r, w', hQ, by omega, by omega, ?_⟩
  intro p e R s m args below meth c n0 s0 cells slots mc ms C hLn h1 h2 h3 h4 h5 h6 h7 H locs ls hP hS hL
  obtain ⟨hx, hb, hr, hlk, hml, hown, hts, hin, hK, hZ, hfr, hlo⟩ := id C
  refine va_newa (atype := .byte) (ty := kty 2) (a0 := (n.toNatClampNeg, .inl (fun _ => 0))) hx hb (hts _ (kw_in kack_2)) rfl hK hP (kws_D b z dA w) hS (fun q hq => by show b ≤ q; omega) (fun _ => rfl) hn rfl (by simp only [kty, componentBytes]; omega) (by omega) (by omega) hd (fun q cA H1 hK1 hP1 hD1 hS1 => ?_)
  have hc : cA = dA 2 := kRA_eq (by omega) hK (hK1.2 6 (cA, kty 2) rfl).2
  subst hc
  intro T hT X
  have hz : H1.size ≤ b + w.length + 1 := by
    have := X.heapSize
    rw [hT] at this
    omega
  have hq := kplace hP1 hD1 hz
  subst hq
  refine g p e R s m args below meth c n0 s0 (cells + 1) (slots + n.toNatClampNeg) mc ms C (by rw [kclr_len]; exact hLn) (by rw [List.length_append]; simp; omega) (by rw [ksl_app, kslt_new]; omega) h3 h4 h5 h6 h7 H1 locs ls ?_ hS1 (hL.clr ps) T hT X
  rw [kws_app, kEl_new _ _ (by omega)]
  exact hP1
theorem knewa_z {Q : Option Value → KW → Prop} {n : Int32} {ps : List Nat} (hn : ¬ n < 0) (hm : n.toNatClampNeg ≤ 100000) (hd : decode (kby mid) pc = .ok (.newarray .boolean, 2)) (g : ∃ r w', Q r w' ∧ (w ++ [kanew 3 n.toNatClampNeg]).length ≤ w'.length ∧ ksl (w ++ [kanew 3 n.toNatClampNeg]) ≤ ksl w' ∧ kGo xs l D dA b z d mid (pc + 2) (kclr ps L) (.ref w.length :: st) (w ++ [kanew 3 n.toNatClampNeg]) r w') : ∃ r w', Q r w' ∧ w.length ≤ w'.length ∧ ksl w ≤ ksl w' ∧ kGo xs l D dA b z d mid pc L (.int n :: st) w r w' := by
  obtain ⟨r, w', hQ, g1, g2, g⟩ := g
  rw [ksl_app, kslt_new] at g2
  rw [List.length_append] at g1
  have g1 : w.length + 1 ≤ w'.length := g1
  refine ⟨r, w', hQ, by omega, by omega, ?_⟩
  intro p e R s m args below meth c n0 s0 cells slots mc ms C hLn h1 h2 h3 h4 h5 h6 h7 H locs ls hP hS hL
  obtain ⟨hx, hb, hr, hlk, hml, hown, hts, hin, hK, hZ, hfr, hlo⟩ := id C
  refine va_newa (atype := .boolean) (ty := kty 3) (a0 := (n.toNatClampNeg, .inl (fun _ => 0))) hx hb (hts _ (kw_in kack_3)) rfl hK hP (kws_D b z dA w) hS (fun q hq => by show b ≤ q; omega) (fun _ => rfl) hn rfl (by simp only [kty, componentBytes]; omega) (by omega) (by omega) hd (fun q cA H1 hK1 hP1 hD1 hS1 => ?_)
  have hc : cA = dA 3 := kRA_eq (by omega) hK (hK1.2 6 (cA, kty 3) rfl).2
  subst hc
  intro T hT X
  have hz : H1.size ≤ b + w.length + 1 := by
    have := X.heapSize
    rw [hT] at this
    omega
  have hq := kplace hP1 hD1 hz
  subst hq
  refine g p e R s m args below meth c n0 s0 (cells + 1) (slots + n.toNatClampNeg) mc ms C (by rw [kclr_len]; exact hLn) (by rw [List.length_append]; simp; omega) (by rw [ksl_app, kslt_new]; omega) h3 h4 h5 h6 h7 H1 locs ls ?_ hS1 (hL.clr ps) T hT X
  rw [kws_app, kEl_new _ _ (by omega)]
  exact hP1
theorem kanew_go {Q : Option Value → KW → Prop} {k t : Nat} {n : Int32} {ps : List Nat} (hc : kan (kown mid) k = some t) (hn : ¬ n < 0) (hm : n.toNatClampNeg ≤ 100000) (hd : decode (kby mid) pc = .ok (.anewarray k, 3)) (g : ∃ r w', Q r w' ∧ (w ++ [kanew t n.toNatClampNeg]).length ≤ w'.length ∧ ksl (w ++ [kanew t n.toNatClampNeg]) ≤ ksl w' ∧ kGo xs l D dA b z d mid (pc + 3) (kclr ps L) (.ref w.length :: st) (w ++ [kanew t n.toNatClampNeg]) r w') : ∃ r w', Q r w' ∧ w.length ≤ w'.length ∧ ksl w ≤ ksl w' ∧ kGo xs l D dA b z d mid pc L (.int n :: st) w r w' := by
  obtain ⟨r, w', hQ, g1, g2, g⟩ := g
  obtain ⟨o1, o2⟩ := kguard hc
  have hk := kall_at kcck_all o1 o2
  simp only [kcck, hc, Bool.and_eq_true] at hk
  obtain ⟨⟨⟨⟨-, hk⟩, -⟩, -⟩, -⟩ := hk
  rw [ksl_app, kslt_new] at g2
  rw [List.length_append] at g1
  have g1 : w.length + 1 ≤ w'.length := g1
  refine ⟨r, w', hQ, by omega, by omega, ?_⟩
  intro p e R s m args below meth c n0 s0 cells slots mc ms C hLn h1 h2 h3 h4 h5 h6 h7 H locs ls hP hS hL
  obtain ⟨hx, hb, hr, hlk, hml, hown, hts, hin, hK, hZ, hfr, hlo⟩ := id C
  simp only [Bool.or_eq_true, Bool.and_eq_true] at hk
  rcases hk with ⟨ht, hl⟩ | ⟨ht, hl⟩
  · have ht := Nat.eq_of_beq_eq_true ht
    subst ht
    refine va_newq (C := "SwapAssize$State") hx hb hown (hts _ (kw_in hl)) hZ.2.2.2.2.2.2.1 hK hP (kws_D b z dA w) hS (fun q hq => by show b ≤ q; omega) hn rfl (by omega) (by omega) (by omega) hd (fun q cA H1 hK1 hP1 hD1 hS1 => ?_)
    have hc : cA = dA 4 := kRA_eq (by omega) hK (hK1.2 6 (cA, kty 4) rfl).2
    subst hc
    intro T hT X
    have hz : H1.size ≤ b + w.length + 1 := by
      have := X.heapSize
      rw [hT] at this
      omega
    have hq := kplace hP1 hD1 hz
    subst hq
    refine g p e R s m args below meth c n0 s0 (cells + 1) (slots + n.toNatClampNeg) mc ms C (by rw [kclr_len]; exact hLn) (by rw [List.length_append]; simp; omega) (by rw [ksl_app, kslt_new]; omega) h3 h4 h5 h6 h7 H1 locs ls ?_ hS1 (hL.clr ps) T hT X
    rw [kws_app, kEl_new _ _ (by omega)]
    exact hP1
  · have ht := Nat.eq_of_beq_eq_true ht
    subst ht
    refine va_newq (C := "SwapAssize$Seen") hx hb hown (hts _ (kw_in hl)) hZ.2.2.2.2.2.2.2 hK hP (kws_D b z dA w) hS (fun q hq => by show b ≤ q; omega) hn rfl (by omega) (by omega) (by omega) hd (fun q cA H1 hK1 hP1 hD1 hS1 => ?_)
    have hc : cA = dA 5 := kRA_eq (by omega) hK (hK1.2 6 (cA, kty 5) rfl).2
    subst hc
    intro T hT X
    have hz : H1.size ≤ b + w.length + 1 := by
      have := X.heapSize
      rw [hT] at this
      omega
    have hq := kplace hP1 hD1 hz
    subst hq
    refine g p e R s m args below meth c n0 s0 (cells + 1) (slots + n.toNatClampNeg) mc ms C (by rw [kclr_len]; exact hLn) (by rw [List.length_append]; simp; omega) (by rw [ksl_app, kslt_new]; omega) h3 h4 h5 h6 h7 H1 locs ls ?_ hS1 (hL.clr ps) T hT X
    rw [kws_app, kEl_new _ _ (by omega)]
    exact hP1
end KGO
