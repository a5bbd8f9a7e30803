theorem sk_m0 : s_ok 0 0 sc_0 = true := by decide +kernel
theorem sk_m1 : s_ok 1 0 sc_1 = true := by decide +kernel
theorem sk_m2 : s_ok 2 0 sc_2 = true := by decide +kernel
theorem sk_m3 : s_ok 3 0 sc_3 = true := by decide +kernel
theorem sk_m4 : s_ok 4 0 sc_4 = true := by decide +kernel
theorem sk_m5 : s_ok 5 0 sc_5 = true := by decide +kernel
theorem sk_m6 : s_ok 6 0 sc_6 = true := by decide +kernel
theorem sk_m7 : s_ok 7 0 sc_7 = true := by decide +kernel
theorem sk_m8 : s_ok 8 0 sc_8 = true := by decide +kernel
theorem sk_m9 : s_ok 9 0 sc_9 = true := by decide +kernel
theorem sk_m10 : s_ok 10 0 sc_10 = true := by decide +kernel
theorem sk_m11 : s_ok 11 0 sc_11 = true := by decide +kernel
theorem sk_m12 : s_ok 12 0 sc_12 = true := by decide +kernel
theorem sk_m13 : s_ok 13 0 sc_13 = true := by decide +kernel
theorem sk_m14 : s_ok 14 0 sc_14 = true := by decide +kernel
theorem sk_m15 : s_ok 15 0 sc_15 = true := by decide +kernel
theorem sk_m16 : s_ok 16 0 sc_16 = true := by decide +kernel
theorem sk_m17 : s_ok 17 0 sc_17 = true := by decide +kernel
theorem sk_m18 : s_ok 18 0 sc_18 = true := by decide +kernel
theorem sk_m19 : s_ok 19 0 sc_19 = true := by decide +kernel
theorem sk_m20 : s_ok 20 0 sc_20 = true := by decide +kernel
theorem sk_m21 : s_ok 21 0 sc_21 = true := by decide +kernel
theorem sk_m22 : s_ok 22 0 sc_22 = true := by decide +kernel
theorem sk_m23 : s_ok 23 0 sc_23 = true := by decide +kernel
theorem sk_m24 : s_ok 24 0 sc_24 = true := by decide +kernel
theorem sk_m25 : s_ok 25 0 sc_25 = true := by decide +kernel
theorem sk_m26 : s_ok 26 0 sc_26 = true := by decide +kernel
theorem sk_m27 : s_ok 27 0 sc_27 = true := by decide +kernel
theorem sk_m28 : s_ok 28 0 sc_28 = true := by decide +kernel
theorem sk_m29 : s_ok 29 0 sc_29 = true := by decide +kernel
theorem sk_m30 : s_ok 30 0 sc_30 = true := by decide +kernel
theorem sk_m31 : s_ok 31 0 sc_31 = true := by decide +kernel
theorem sk_m32 : s_ok 32 0 sc_32 = true := by decide +kernel
theorem sk_m33 : s_ok 33 0 sc_33 = true := by decide +kernel
theorem sk_m34 : s_ok 34 0 sc_34 = true := by decide +kernel
theorem sk_m35 : s_ok 35 0 sc_35 = true := by decide +kernel
theorem sk_m36 : s_ok 36 0 sc_36 = true := by decide +kernel
theorem sk_m37 : s_ok 37 0 sc_37 = true := by decide +kernel
theorem sk_m38 : s_ok 38 0 sc_38 = true := by decide +kernel
theorem sk_m39 : s_ok 39 0 sc_39 = true := by decide +kernel
theorem sk_m40 : s_ok 40 0 sc_40 = true := by decide +kernel
theorem sk_m41 : s_ok 41 0 sc_41 = true := by decide +kernel
theorem sk_m42 : s_ok 42 0 sc_42 = true := by decide +kernel
theorem sk_m43 : s_ok 43 0 sc_43 = true := by decide +kernel
theorem sk_m44 : s_ok 44 0 sc_44 = true := by decide +kernel
theorem sk_m45 : s_ok 45 0 sc_45 = true := by decide +kernel
theorem sk_m46 : s_ok 46 0 sc_46 = true := by decide +kernel
theorem sk_m47 : s_ok 47 0 sc_47 = true := by decide +kernel
theorem sk_m48 : s_ok 48 0 sc_48 = true := by decide +kernel
theorem sk_m49 : s_ok 49 0 sc_49 = true := by decide +kernel
theorem sk_m50 : s_ok 50 0 sc_50 = true := by decide +kernel
theorem sk_m51 : s_ok 51 0 sc_51 = true := by decide +kernel
theorem sk_m52 : s_ok 52 0 sc_52 = true := by decide +kernel
theorem sk_m53 : s_ok 53 0 sc_53 = true := by decide +kernel
theorem sk_m54 : s_ok 54 0 sc_54 = true := by decide +kernel
theorem sk_m55 : s_ok 55 0 sc_55 = true := by decide +kernel
theorem sk_m56 : s_ok 56 0 sc_56 = true := by decide +kernel
theorem sk_m57 : s_ok 57 0 sc_57 = true := by decide +kernel
theorem sk_m58 : s_ok 58 0 sc_58 = true := by decide +kernel
theorem sk_m59 : s_ok 59 0 sc_59 = true := by decide +kernel
theorem sk_m60 : s_ok 60 0 sc_60 = true := by decide +kernel
theorem sk_m61 : s_ok 61 0 sc_61 = true := by decide +kernel
theorem sk_m62 : s_ok 62 0 sc_62 = true := by decide +kernel
theorem sk_m63 : s_ok 63 0 sc_63 = true := by decide +kernel
theorem sk_m64 : s_ok 64 0 sc_64 = true := by decide +kernel
theorem sk_m65 : s_ok 65 0 sc_65 = true := by decide +kernel
theorem sk_m66 : s_ok 66 0 sc_66 = true := by decide +kernel
theorem sk_m67 : s_ok 67 0 sc_67 = true := by decide +kernel
theorem sk_m68 : s_ok 68 0 sc_68 = true := by decide +kernel
theorem sk_m69 : s_ok 69 0 sc_69 = true := by decide +kernel
theorem sk_m70 : s_ok 70 0 sc_70 = true := by decide +kernel
theorem sk_m71 : s_ok 71 0 sc_71 = true := by decide +kernel
theorem sk_m72 : s_ok 72 0 sc_72 = true := by decide +kernel
theorem sk_m73 : s_ok 73 0 sc_73 = true := by decide +kernel
theorem sk_m74 : s_ok 74 0 sc_74 = true := by decide +kernel
theorem sk_m75 : s_ok 75 0 sc_75 = true := by decide +kernel
theorem sk_m76 : s_ok 76 0 sc_76 = true := by decide +kernel
theorem sk_m77 : s_ok 77 0 sc_77 = true := by decide +kernel
theorem sk_m78 : s_ok 78 0 sc_78 = true := by decide +kernel
theorem sk_m79 : s_ok 79 0 sc_79 = true := by decide +kernel
theorem sk_m80 : s_ok 80 0 sc_80 = true := by decide +kernel
theorem sk_m81 : s_ok 81 0 sc_81 = true := by decide +kernel
theorem sk_m82 : s_ok 82 0 sc_82 = true := by decide +kernel
theorem sk_m83 : s_ok 83 0 sc_83 = true := by decide +kernel
theorem sk_m84 : s_ok 84 0 sc_84 = true := by decide +kernel
theorem sk_m85 : s_ok 85 0 sc_85 = true := by decide +kernel
theorem sk_m86 : s_ok 86 0 sc_86 = true := by decide +kernel
theorem sk_m87 : s_ok 87 0 sc_87 = true := by decide +kernel
theorem sk_m88 : s_ok 88 0 sc_88 = true := by decide +kernel
theorem sk_m89 : s_ok 89 0 sc_89 = true := by decide +kernel
theorem sk_m90 : s_ok 90 0 sc_90 = true := by decide +kernel
theorem sk_m91 : s_ok 91 0 sc_91 = true := by decide +kernel
theorem sk_m92 : s_ok 92 0 sc_92 = true := by decide +kernel
theorem sk_m93 : s_ok 93 0 sc_93 = true := by decide +kernel
theorem sk_m94 : s_ok 94 0 sc_94 = true := by decide +kernel
theorem sk_m95 : s_ok 95 0 sc_95 = true := by decide +kernel
theorem sk_m96 : s_ok 96 0 sc_96 = true := by decide +kernel
theorem sk_m97 : s_ok 97 0 sc_97 = true := by decide +kernel
theorem sk_m98 : s_ok 98 0 sc_98 = true := by decide +kernel
theorem sk_m99 : s_ok 99 0 sc_99 = true := by decide +kernel
theorem sk_m100 : s_ok 100 0 sc_100 = true := by decide +kernel
theorem sk_m101 : s_ok 101 0 sc_101 = true := by decide +kernel
theorem sk_m102 : s_ok 102 0 sc_102 = true := by decide +kernel
theorem sk_m103 : s_ok 103 0 sc_103 = true := by decide +kernel
theorem sk_m104 : s_ok 104 0 sc_104 = true := by decide +kernel
theorem sk_m105 : s_ok 105 0 sc_105 = true := by decide +kernel
theorem sk_m106 : s_ok 106 0 sc_106 = true := by decide +kernel
theorem sk_m107 : s_ok 107 0 sc_107 = true := by decide +kernel
theorem sk_m108 : s_ok 108 0 sc_108 = true := by decide +kernel
theorem sk_m109 : s_ok 109 0 sc_109 = true := by decide +kernel
theorem sk_m110 : s_ok 110 0 sc_110 = true := by decide +kernel
theorem sk_m111 : s_ok 111 0 sc_111 = true := by decide +kernel
theorem sk_m112 : s_ok 112 0 sc_112 = true := by decide +kernel
theorem sk_m113 : s_ok 113 0 sc_113 = true := by decide +kernel
theorem sk_m114 : s_ok 114 0 sc_114 = true := by decide +kernel
theorem sk_m115 : s_ok 115 0 sc_115 = true := by decide +kernel
theorem sk_m116 : s_ok 116 0 sc_116 = true := by decide +kernel
theorem sk_m117 : s_ok 117 0 sc_117 = true := by decide +kernel
theorem sk_m118 : s_ok 118 0 sc_118 = true := by decide +kernel
theorem sk_m119 : s_ok 119 0 sc_119 = true := by decide +kernel
theorem sk_m120 : s_ok 120 0 sc_120 = true := by decide +kernel
theorem sk_m121 : s_ok 121 0 sc_121 = true := by decide +kernel
theorem sk_m122 : s_ok 122 0 sc_122 = true := by decide +kernel
theorem sk_m123 : s_ok 123 0 sc_123 = true := by decide +kernel
theorem sk_m124 : s_ok 124 0 sc_124 = true := by decide +kernel
theorem sk_m125 : s_ok 125 0 sc_125 = true := by decide +kernel
theorem sk_m126 : s_ok 126 0 sc_126 = true := by decide +kernel
theorem sk_m127 : s_ok 127 0 sc_127 = true := by decide +kernel
theorem sk_m128 : s_ok 128 0 sc_128 = true := by decide +kernel
theorem sk_m129 : s_ok 129 0 sc_129 = true := by decide +kernel
theorem sk_m130 : s_ok 130 0 sc_130 = true := by decide +kernel
theorem sk_m131 : s_ok 131 0 sc_131 = true := by decide +kernel
theorem sk_m132 : s_ok 132 0 sc_132 = true := by decide +kernel
theorem sk_m133 : s_ok 133 0 sc_133 = true := by decide +kernel
theorem sk_m134 : s_ok 134 0 sc_134 = true := by decide +kernel
theorem sk_m135 : s_ok 135 0 sc_135 = true := by decide +kernel
theorem sk_m136 : s_ok 136 0 sc_136 = true := by decide +kernel
theorem sk_m137 : s_ok 137 0 sc_137 = true := by decide +kernel
theorem sk_m138 : s_ok 138 0 sc_138 = true := by decide +kernel
theorem sk_m139 : s_ok 139 0 sc_139 = true := by decide +kernel
theorem sk_m140 : s_ok 140 0 sc_140 = true := by decide +kernel
theorem sk_m141 : s_ok 141 0 sc_141 = true := by decide +kernel
theorem sk_m142 : s_ok 142 0 sc_142 = true := by decide +kernel
theorem sk_m143 : s_ok 143 0 sc_143 = true := by decide +kernel
theorem sk_m144 : s_ok 144 0 sc_144 = true := by decide +kernel
theorem sk_m145 : s_ok 145 0 sc_145 = true := by decide +kernel
theorem sk_m146 : s_ok 146 0 sc_146 = true := by decide +kernel
theorem sk_m147 : s_ok 147 0 sc_147 = true := by decide +kernel
theorem sk_m148 : s_ok 148 0 sc_148 = true := by decide +kernel
theorem sk_m149 : s_ok 149 0 sc_149 = true := by decide +kernel
theorem sk_m150 : s_ok 150 0 sc_150 = true := by decide +kernel
theorem sk_m151 : s_ok 151 0 sc_151 = true := by decide +kernel
theorem sk_m152 : s_ok 152 0 sc_152 = true := by decide +kernel
theorem sk_m153 : s_ok 153 0 sc_153 = true := by decide +kernel
theorem sk_m154 : s_ok 154 0 sc_154 = true := by decide +kernel
theorem sk_m155 : s_ok 155 0 sc_155 = true := by decide +kernel
theorem sk_m156 : s_ok 156 0 sc_156 = true := by decide +kernel
theorem sk_m157 : s_ok 157 0 sc_157 = true := by decide +kernel
theorem sk_m158 : s_ok 158 0 sc_158 = true := by decide +kernel
theorem sk_m159 : s_ok 159 0 sc_159 = true := by decide +kernel
theorem sk_m160 : s_ok 160 0 sc_160 = true := by decide +kernel
theorem sk_m161 : s_ok 161 0 sc_161 = true := by decide +kernel
theorem sk_m162 : s_ok 162 0 sc_162 = true := by decide +kernel
theorem sk_m163 : s_ok 163 0 sc_163 = true := by decide +kernel
theorem sk_m164 : s_ok 164 0 sc_164 = true := by decide +kernel
theorem sk_m165 : s_ok 165 0 sc_165 = true := by decide +kernel
theorem sk_m166 : s_ok 166 0 sc_166 = true := by decide +kernel
theorem sk_m167 : s_ok 167 0 sc_167 = true := by decide +kernel
theorem sk_m168 : s_ok 168 0 sc_168 = true := by decide +kernel
theorem sk_m169 : s_ok 169 0 sc_169 = true := by decide +kernel
theorem sk_m170 : s_ok 170 0 sc_170 = true := by decide +kernel
theorem sk_m171 : s_ok 171 0 sc_171 = true := by decide +kernel
theorem sk_m172 : s_ok 172 0 sc_172 = true := by decide +kernel
theorem sk_m173 : s_ok 173 0 sc_173 = true := by decide +kernel
theorem sk_m174 : s_ok 174 0 sc_174 = true := by decide +kernel
theorem sk_m175 : s_ok 175 0 sc_175 = true := by decide +kernel
theorem sk_m176 : s_ok 176 0 sc_176 = true := by decide +kernel
theorem sk_m177 : s_ok 177 0 sc_177 = true := by decide +kernel
theorem sk_m178 : s_ok 178 0 sc_178 = true := by decide +kernel
theorem sk_m179 : s_ok 179 0 sc_179 = true := by decide +kernel
theorem sk_m180 : s_ok 180 0 sc_180 = true := by decide +kernel
theorem sk_m181 : s_ok 181 0 sc_181 = true := by decide +kernel
theorem sk_m182 : s_ok 182 0 sc_182 = true := by decide +kernel
theorem sk_m183 : s_ok 183 0 sc_183 = true := by decide +kernel
theorem sk_m184 : s_ok 184 0 sc_184 = true := by decide +kernel
theorem sk_m185 : s_ok 185 0 sc_185 = true := by decide +kernel
theorem sk_m186 : s_ok 186 0 sc_186 = true := by decide +kernel
theorem sk_m187 : s_ok 187 0 sc_187 = true := by decide +kernel
theorem sk_m188 : s_ok 188 0 sc_188 = true := by decide +kernel
theorem sk_m189 : s_ok 189 0 sc_189 = true := by decide +kernel
theorem sk_m190 : s_ok 190 0 sc_190 = true := by decide +kernel
theorem sk_m191 : s_ok 191 0 sc_191 = true := by decide +kernel
theorem sk_m192 : s_ok 192 0 sc_192 = true := by decide +kernel
theorem sk_m193 : s_ok 193 0 sc_193 = true := by decide +kernel
theorem sk_m194 : s_ok 194 0 sc_194 = true := by decide +kernel
theorem sk_m195 : s_ok 195 0 sc_195 = true := by decide +kernel
theorem sk_m196 : s_ok 196 0 sc_196 = true := by decide +kernel
theorem sk_m197 : s_ok 197 0 sc_197 = true := by decide +kernel
theorem sk_m198 : s_ok 198 0 sc_198 = true := by decide +kernel
theorem sk_m199 : s_ok 199 0 sc_199 = true := by decide +kernel
theorem sk_m200 : s_ok 200 0 sc_200 = true := by decide +kernel
theorem sk_m201 : s_ok 201 0 sc_201 = true := by decide +kernel
theorem sk_m202 : s_ok 202 0 sc_202 = true := by decide +kernel
theorem sk_m203 : s_ok 203 0 sc_203 = true := by decide +kernel
theorem sk_m204 : s_ok 204 0 sc_204 = true := by decide +kernel
theorem sk_m205 : s_ok 205 0 sc_205 = true := by decide +kernel
theorem sk_m206 : s_ok 206 0 sc_206 = true := by decide +kernel
theorem sk_m207 : s_ok 207 0 sc_207 = true := by decide +kernel
theorem sk_m208 : s_ok 208 0 sc_208 = true := by decide +kernel
theorem sk_m209 : s_ok 209 0 sc_209 = true := by decide +kernel
theorem sk_m210 : s_ok 210 0 sc_210 = true := by decide +kernel
theorem sk_m211 : s_ok 211 0 sc_211 = true := by decide +kernel
theorem sk_m212 : s_ok 212 0 sc_212 = true := by decide +kernel
theorem sk_m213 : s_ok 213 0 sc_213 = true := by decide +kernel
theorem sk_m214 : s_ok 214 0 sc_214 = true := by decide +kernel
theorem sk_m215 : s_ok 215 0 sc_215 = true := by decide +kernel
theorem sk_m216 : s_ok 216 0 sc_216 = true := by decide +kernel
theorem sk_m217 : s_ok 217 0 sc_217 = true := by decide +kernel
theorem sk_m218 : s_ok 218 0 sc_218 = true := by decide +kernel
theorem sk_m219 : s_ok 219 0 sc_219 = true := by decide +kernel
theorem sk_m220 : s_ok 220 0 sc_220 = true := by decide +kernel
theorem sk_m221 : s_ok 221 0 sc_221 = true := by decide +kernel
theorem sk_m222 : s_ok 222 0 sc_222 = true := by decide +kernel
theorem sk_m223 : s_ok 223 0 sc_223 = true := by decide +kernel
theorem sk_m224 : s_ok 224 0 sc_224 = true := by decide +kernel
theorem sk_m225 : s_ok 225 0 sc_225 = true := by decide +kernel
theorem sk_m226 : s_ok 226 0 sc_226 = true := by decide +kernel
theorem sk_m227 : s_ok 227 0 sc_227 = true := by decide +kernel
theorem sk_m228 : s_ok 228 0 sc_228 = true := by decide +kernel
theorem sk_m229 : s_ok 229 0 sc_229 = true := by decide +kernel
theorem sk_m230 : s_ok 230 0 sc_230 = true := by decide +kernel
theorem sk_m231 : s_ok 231 0 sc_231 = true := by decide +kernel
theorem sk_m232 : s_ok 232 0 sc_232 = true := by decide +kernel
theorem sk_m233 : s_ok 233 0 sc_233 = true := by decide +kernel
theorem sk_m234 : s_ok 234 0 sc_234 = true := by decide +kernel
theorem sk_m235 : s_ok 235 0 sc_235 = true := by decide +kernel
theorem sk_m236 : s_ok 236 0 sc_236 = true := by decide +kernel
theorem sk_m237 : s_ok 237 0 sc_237 = true := by decide +kernel
theorem sk_m238 : s_ok 238 0 sc_238 = true := by decide +kernel
theorem sk_m239 : s_ok 239 0 sc_239 = true := by decide +kernel
theorem sk_m240 : s_ok 240 0 sc_240 = true := by decide +kernel
theorem sk_m241 : s_ok 241 0 sc_241 = true := by decide +kernel
theorem sk_m242 : s_ok 242 0 sc_242 = true := by decide +kernel
theorem sk_m243 : s_ok 243 0 sc_243 = true := by decide +kernel
theorem sk_m244 : s_ok 244 0 sc_244 = true := by decide +kernel
theorem sk_m245 : s_ok 245 0 sc_245 = true := by decide +kernel
theorem sk_m246 : s_ok 246 0 sc_246 = true := by decide +kernel
theorem sk_m247 : s_ok 247 0 sc_247 = true := by decide +kernel
theorem sk_m248 : s_ok 248 0 sc_248 = true := by decide +kernel
theorem sk_m249 : s_ok 249 0 sc_249 = true := by decide +kernel
theorem sk_m250 : s_ok 250 0 sc_250 = true := by decide +kernel
theorem sk_m251 : s_ok 251 0 sc_251 = true := by decide +kernel
theorem sk_m252 : s_ok 252 0 sc_252 = true := by decide +kernel
theorem sk_m253 : s_ok 253 0 sc_253 = true := by decide +kernel
theorem sk_m254 : s_ok 254 0 sc_254 = true := by decide +kernel
theorem sk_m255 : s_ok 255 0 sc_255 = true := by decide +kernel
theorem sk_m256 : s_ok 256 0 sc_256 = true := by decide +kernel
theorem sk_m257 : s_ok 257 0 sc_257 = true := by decide +kernel
theorem sk_m258 : s_ok 258 0 sc_258 = true := by decide +kernel
theorem sk_m259 : s_ok 259 0 sc_259 = true := by decide +kernel
theorem sk_m260 : s_ok 260 0 sc_260 = true := by decide +kernel
theorem sk_m261 : s_ok 261 0 sc_261 = true := by decide +kernel
theorem sk_m262 : s_ok 262 0 sc_262 = true := by decide +kernel
theorem sk_m263 : s_ok 263 0 sc_263 = true := by decide +kernel
theorem sk_m264 : s_ok 264 0 sc_264 = true := by decide +kernel
theorem sk_m265 : s_ok 265 0 sc_265 = true := by decide +kernel
theorem sk_m266 : s_ok 266 0 sc_266 = true := by decide +kernel
theorem sk_m267 : s_ok 267 0 sc_267 = true := by decide +kernel
theorem sk_m268 : s_ok 268 0 sc_268 = true := by decide +kernel
theorem sk_m269 : s_ok 269 0 sc_269 = true := by decide +kernel
theorem sk_m270 : s_ok 270 0 sc_270 = true := by decide +kernel
theorem sk_m271 : s_ok 271 0 sc_271 = true := by decide +kernel
theorem sc_kg0 : ∀ k, k < 16 → s_ok (0 + k) 0 (s_at [] sc_g0 k) = true := by
  intro k hk
  match k, hk with
  | 0, _ => exact sk_m0
  | 1, _ => exact sk_m1
  | 2, _ => exact sk_m2
  | 3, _ => exact sk_m3
  | 4, _ => exact sk_m4
  | 5, _ => exact sk_m5
  | 6, _ => exact sk_m6
  | 7, _ => exact sk_m7
  | 8, _ => exact sk_m8
  | 9, _ => exact sk_m9
  | 10, _ => exact sk_m10
  | 11, _ => exact sk_m11
  | 12, _ => exact sk_m12
  | 13, _ => exact sk_m13
  | 14, _ => exact sk_m14
  | 15, _ => exact sk_m15
  | k + 16, hk => omega
theorem sc_kg1 : ∀ k, k < 16 → s_ok (16 + k) 0 (s_at [] sc_g1 k) = true := by
  intro k hk
  match k, hk with
  | 0, _ => exact sk_m16
  | 1, _ => exact sk_m17
  | 2, _ => exact sk_m18
  | 3, _ => exact sk_m19
  | 4, _ => exact sk_m20
  | 5, _ => exact sk_m21
  | 6, _ => exact sk_m22
  | 7, _ => exact sk_m23
  | 8, _ => exact sk_m24
  | 9, _ => exact sk_m25
  | 10, _ => exact sk_m26
  | 11, _ => exact sk_m27
  | 12, _ => exact sk_m28
  | 13, _ => exact sk_m29
  | 14, _ => exact sk_m30
  | 15, _ => exact sk_m31
  | k + 16, hk => omega
theorem sc_kg2 : ∀ k, k < 16 → s_ok (32 + k) 0 (s_at [] sc_g2 k) = true := by
  intro k hk
  match k, hk with
  | 0, _ => exact sk_m32
  | 1, _ => exact sk_m33
  | 2, _ => exact sk_m34
  | 3, _ => exact sk_m35
  | 4, _ => exact sk_m36
  | 5, _ => exact sk_m37
  | 6, _ => exact sk_m38
  | 7, _ => exact sk_m39
  | 8, _ => exact sk_m40
  | 9, _ => exact sk_m41
  | 10, _ => exact sk_m42
  | 11, _ => exact sk_m43
  | 12, _ => exact sk_m44
  | 13, _ => exact sk_m45
  | 14, _ => exact sk_m46
  | 15, _ => exact sk_m47
  | k + 16, hk => omega
theorem sc_kg3 : ∀ k, k < 16 → s_ok (48 + k) 0 (s_at [] sc_g3 k) = true := by
  intro k hk
  match k, hk with
  | 0, _ => exact sk_m48
  | 1, _ => exact sk_m49
  | 2, _ => exact sk_m50
  | 3, _ => exact sk_m51
  | 4, _ => exact sk_m52
  | 5, _ => exact sk_m53
  | 6, _ => exact sk_m54
  | 7, _ => exact sk_m55
  | 8, _ => exact sk_m56
  | 9, _ => exact sk_m57
  | 10, _ => exact sk_m58
  | 11, _ => exact sk_m59
  | 12, _ => exact sk_m60
  | 13, _ => exact sk_m61
  | 14, _ => exact sk_m62
  | 15, _ => exact sk_m63
  | k + 16, hk => omega
theorem sc_kg4 : ∀ k, k < 16 → s_ok (64 + k) 0 (s_at [] sc_g4 k) = true := by
  intro k hk
  match k, hk with
  | 0, _ => exact sk_m64
  | 1, _ => exact sk_m65
  | 2, _ => exact sk_m66
  | 3, _ => exact sk_m67
  | 4, _ => exact sk_m68
  | 5, _ => exact sk_m69
  | 6, _ => exact sk_m70
  | 7, _ => exact sk_m71
  | 8, _ => exact sk_m72
  | 9, _ => exact sk_m73
  | 10, _ => exact sk_m74
  | 11, _ => exact sk_m75
  | 12, _ => exact sk_m76
  | 13, _ => exact sk_m77
  | 14, _ => exact sk_m78
  | 15, _ => exact sk_m79
  | k + 16, hk => omega
theorem sc_kg5 : ∀ k, k < 16 → s_ok (80 + k) 0 (s_at [] sc_g5 k) = true := by
  intro k hk
  match k, hk with
  | 0, _ => exact sk_m80
  | 1, _ => exact sk_m81
  | 2, _ => exact sk_m82
  | 3, _ => exact sk_m83
  | 4, _ => exact sk_m84
  | 5, _ => exact sk_m85
  | 6, _ => exact sk_m86
  | 7, _ => exact sk_m87
  | 8, _ => exact sk_m88
  | 9, _ => exact sk_m89
  | 10, _ => exact sk_m90
  | 11, _ => exact sk_m91
  | 12, _ => exact sk_m92
  | 13, _ => exact sk_m93
  | 14, _ => exact sk_m94
  | 15, _ => exact sk_m95
  | k + 16, hk => omega
theorem sc_kg6 : ∀ k, k < 16 → s_ok (96 + k) 0 (s_at [] sc_g6 k) = true := by
  intro k hk
  match k, hk with
  | 0, _ => exact sk_m96
  | 1, _ => exact sk_m97
  | 2, _ => exact sk_m98
  | 3, _ => exact sk_m99
  | 4, _ => exact sk_m100
  | 5, _ => exact sk_m101
  | 6, _ => exact sk_m102
  | 7, _ => exact sk_m103
  | 8, _ => exact sk_m104
  | 9, _ => exact sk_m105
  | 10, _ => exact sk_m106
  | 11, _ => exact sk_m107
  | 12, _ => exact sk_m108
  | 13, _ => exact sk_m109
  | 14, _ => exact sk_m110
  | 15, _ => exact sk_m111
  | k + 16, hk => omega
theorem sc_kg7 : ∀ k, k < 16 → s_ok (112 + k) 0 (s_at [] sc_g7 k) = true := by
  intro k hk
  match k, hk with
  | 0, _ => exact sk_m112
  | 1, _ => exact sk_m113
  | 2, _ => exact sk_m114
  | 3, _ => exact sk_m115
  | 4, _ => exact sk_m116
  | 5, _ => exact sk_m117
  | 6, _ => exact sk_m118
  | 7, _ => exact sk_m119
  | 8, _ => exact sk_m120
  | 9, _ => exact sk_m121
  | 10, _ => exact sk_m122
  | 11, _ => exact sk_m123
  | 12, _ => exact sk_m124
  | 13, _ => exact sk_m125
  | 14, _ => exact sk_m126
  | 15, _ => exact sk_m127
  | k + 16, hk => omega
theorem sc_kg8 : ∀ k, k < 16 → s_ok (128 + k) 0 (s_at [] sc_g8 k) = true := by
  intro k hk
  match k, hk with
  | 0, _ => exact sk_m128
  | 1, _ => exact sk_m129
  | 2, _ => exact sk_m130
  | 3, _ => exact sk_m131
  | 4, _ => exact sk_m132
  | 5, _ => exact sk_m133
  | 6, _ => exact sk_m134
  | 7, _ => exact sk_m135
  | 8, _ => exact sk_m136
  | 9, _ => exact sk_m137
  | 10, _ => exact sk_m138
  | 11, _ => exact sk_m139
  | 12, _ => exact sk_m140
  | 13, _ => exact sk_m141
  | 14, _ => exact sk_m142
  | 15, _ => exact sk_m143
  | k + 16, hk => omega
theorem sc_kg9 : ∀ k, k < 16 → s_ok (144 + k) 0 (s_at [] sc_g9 k) = true := by
  intro k hk
  match k, hk with
  | 0, _ => exact sk_m144
  | 1, _ => exact sk_m145
  | 2, _ => exact sk_m146
  | 3, _ => exact sk_m147
  | 4, _ => exact sk_m148
  | 5, _ => exact sk_m149
  | 6, _ => exact sk_m150
  | 7, _ => exact sk_m151
  | 8, _ => exact sk_m152
  | 9, _ => exact sk_m153
  | 10, _ => exact sk_m154
  | 11, _ => exact sk_m155
  | 12, _ => exact sk_m156
  | 13, _ => exact sk_m157
  | 14, _ => exact sk_m158
  | 15, _ => exact sk_m159
  | k + 16, hk => omega
theorem sc_kg10 : ∀ k, k < 16 → s_ok (160 + k) 0 (s_at [] sc_g10 k) = true := by
  intro k hk
  match k, hk with
  | 0, _ => exact sk_m160
  | 1, _ => exact sk_m161
  | 2, _ => exact sk_m162
  | 3, _ => exact sk_m163
  | 4, _ => exact sk_m164
  | 5, _ => exact sk_m165
  | 6, _ => exact sk_m166
  | 7, _ => exact sk_m167
  | 8, _ => exact sk_m168
  | 9, _ => exact sk_m169
  | 10, _ => exact sk_m170
  | 11, _ => exact sk_m171
  | 12, _ => exact sk_m172
  | 13, _ => exact sk_m173
  | 14, _ => exact sk_m174
  | 15, _ => exact sk_m175
  | k + 16, hk => omega
theorem sc_kg11 : ∀ k, k < 16 → s_ok (176 + k) 0 (s_at [] sc_g11 k) = true := by
  intro k hk
  match k, hk with
  | 0, _ => exact sk_m176
  | 1, _ => exact sk_m177
  | 2, _ => exact sk_m178
  | 3, _ => exact sk_m179
  | 4, _ => exact sk_m180
  | 5, _ => exact sk_m181
  | 6, _ => exact sk_m182
  | 7, _ => exact sk_m183
  | 8, _ => exact sk_m184
  | 9, _ => exact sk_m185
  | 10, _ => exact sk_m186
  | 11, _ => exact sk_m187
  | 12, _ => exact sk_m188
  | 13, _ => exact sk_m189
  | 14, _ => exact sk_m190
  | 15, _ => exact sk_m191
  | k + 16, hk => omega
theorem sc_kg12 : ∀ k, k < 16 → s_ok (192 + k) 0 (s_at [] sc_g12 k) = true := by
  intro k hk
  match k, hk with
  | 0, _ => exact sk_m192
  | 1, _ => exact sk_m193
  | 2, _ => exact sk_m194
  | 3, _ => exact sk_m195
  | 4, _ => exact sk_m196
  | 5, _ => exact sk_m197
  | 6, _ => exact sk_m198
  | 7, _ => exact sk_m199
  | 8, _ => exact sk_m200
  | 9, _ => exact sk_m201
  | 10, _ => exact sk_m202
  | 11, _ => exact sk_m203
  | 12, _ => exact sk_m204
  | 13, _ => exact sk_m205
  | 14, _ => exact sk_m206
  | 15, _ => exact sk_m207
  | k + 16, hk => omega
theorem sc_kg13 : ∀ k, k < 16 → s_ok (208 + k) 0 (s_at [] sc_g13 k) = true := by
  intro k hk
  match k, hk with
  | 0, _ => exact sk_m208
  | 1, _ => exact sk_m209
  | 2, _ => exact sk_m210
  | 3, _ => exact sk_m211
  | 4, _ => exact sk_m212
  | 5, _ => exact sk_m213
  | 6, _ => exact sk_m214
  | 7, _ => exact sk_m215
  | 8, _ => exact sk_m216
  | 9, _ => exact sk_m217
  | 10, _ => exact sk_m218
  | 11, _ => exact sk_m219
  | 12, _ => exact sk_m220
  | 13, _ => exact sk_m221
  | 14, _ => exact sk_m222
  | 15, _ => exact sk_m223
  | k + 16, hk => omega
theorem sc_kg14 : ∀ k, k < 16 → s_ok (224 + k) 0 (s_at [] sc_g14 k) = true := by
  intro k hk
  match k, hk with
  | 0, _ => exact sk_m224
  | 1, _ => exact sk_m225
  | 2, _ => exact sk_m226
  | 3, _ => exact sk_m227
  | 4, _ => exact sk_m228
  | 5, _ => exact sk_m229
  | 6, _ => exact sk_m230
  | 7, _ => exact sk_m231
  | 8, _ => exact sk_m232
  | 9, _ => exact sk_m233
  | 10, _ => exact sk_m234
  | 11, _ => exact sk_m235
  | 12, _ => exact sk_m236
  | 13, _ => exact sk_m237
  | 14, _ => exact sk_m238
  | 15, _ => exact sk_m239
  | k + 16, hk => omega
theorem sc_kg15 : ∀ k, k < 16 → s_ok (240 + k) 0 (s_at [] sc_g15 k) = true := by
  intro k hk
  match k, hk with
  | 0, _ => exact sk_m240
  | 1, _ => exact sk_m241
  | 2, _ => exact sk_m242
  | 3, _ => exact sk_m243
  | 4, _ => exact sk_m244
  | 5, _ => exact sk_m245
  | 6, _ => exact sk_m246
  | 7, _ => exact sk_m247
  | 8, _ => exact sk_m248
  | 9, _ => exact sk_m249
  | 10, _ => exact sk_m250
  | 11, _ => exact sk_m251
  | 12, _ => exact sk_m252
  | 13, _ => exact sk_m253
  | 14, _ => exact sk_m254
  | 15, _ => exact sk_m255
  | k + 16, hk => omega
theorem sc_kg16 : ∀ k, k < 16 → s_ok (256 + k) 0 (s_at [] sc_g16 k) = true := by
  intro k hk
  match k, hk with
  | 0, _ => exact sk_m256
  | 1, _ => exact sk_m257
  | 2, _ => exact sk_m258
  | 3, _ => exact sk_m259
  | 4, _ => exact sk_m260
  | 5, _ => exact sk_m261
  | 6, _ => exact sk_m262
  | 7, _ => exact sk_m263
  | 8, _ => exact sk_m264
  | 9, _ => exact sk_m265
  | 10, _ => exact sk_m266
  | 11, _ => exact sk_m267
  | 12, _ => exact sk_m268
  | 13, _ => exact sk_m269
  | 14, _ => exact sk_m270
  | 15, _ => exact sk_m271
  | k + 16, hk => omega
theorem sc_ok (y : Nat) (h : y < 272) : s_ok y 0 (sc_meth y) = true := by
  unfold sc_meth
  by_cases h0 : y < 16
  · have h9 := sc_kg0 (y - 0) (by omega)
    rw [show 0 + (y - 0) = y by omega] at h9
    rw [show y / 16 = 0 by omega, show y % 16 = y - 0 by omega]
    exact h9
  by_cases h1 : y < 32
  · have h9 := sc_kg1 (y - 16) (by omega)
    rw [show 16 + (y - 16) = y by omega] at h9
    rw [show y / 16 = 1 by omega, show y % 16 = y - 16 by omega]
    exact h9
  by_cases h2 : y < 48
  · have h9 := sc_kg2 (y - 32) (by omega)
    rw [show 32 + (y - 32) = y by omega] at h9
    rw [show y / 16 = 2 by omega, show y % 16 = y - 32 by omega]
    exact h9
  by_cases h3 : y < 64
  · have h9 := sc_kg3 (y - 48) (by omega)
    rw [show 48 + (y - 48) = y by omega] at h9
    rw [show y / 16 = 3 by omega, show y % 16 = y - 48 by omega]
    exact h9
  by_cases h4 : y < 80
  · have h9 := sc_kg4 (y - 64) (by omega)
    rw [show 64 + (y - 64) = y by omega] at h9
    rw [show y / 16 = 4 by omega, show y % 16 = y - 64 by omega]
    exact h9
  by_cases h5 : y < 96
  · have h9 := sc_kg5 (y - 80) (by omega)
    rw [show 80 + (y - 80) = y by omega] at h9
    rw [show y / 16 = 5 by omega, show y % 16 = y - 80 by omega]
    exact h9
  by_cases h6 : y < 112
  · have h9 := sc_kg6 (y - 96) (by omega)
    rw [show 96 + (y - 96) = y by omega] at h9
    rw [show y / 16 = 6 by omega, show y % 16 = y - 96 by omega]
    exact h9
  by_cases h7 : y < 128
  · have h9 := sc_kg7 (y - 112) (by omega)
    rw [show 112 + (y - 112) = y by omega] at h9
    rw [show y / 16 = 7 by omega, show y % 16 = y - 112 by omega]
    exact h9
  by_cases h8 : y < 144
  · have h9 := sc_kg8 (y - 128) (by omega)
    rw [show 128 + (y - 128) = y by omega] at h9
    rw [show y / 16 = 8 by omega, show y % 16 = y - 128 by omega]
    exact h9
  by_cases h9 : y < 160
  · have h9 := sc_kg9 (y - 144) (by omega)
    rw [show 144 + (y - 144) = y by omega] at h9
    rw [show y / 16 = 9 by omega, show y % 16 = y - 144 by omega]
    exact h9
  by_cases h10 : y < 176
  · have h9 := sc_kg10 (y - 160) (by omega)
    rw [show 160 + (y - 160) = y by omega] at h9
    rw [show y / 16 = 10 by omega, show y % 16 = y - 160 by omega]
    exact h9
  by_cases h11 : y < 192
  · have h9 := sc_kg11 (y - 176) (by omega)
    rw [show 176 + (y - 176) = y by omega] at h9
    rw [show y / 16 = 11 by omega, show y % 16 = y - 176 by omega]
    exact h9
  by_cases h12 : y < 208
  · have h9 := sc_kg12 (y - 192) (by omega)
    rw [show 192 + (y - 192) = y by omega] at h9
    rw [show y / 16 = 12 by omega, show y % 16 = y - 192 by omega]
    exact h9
  by_cases h13 : y < 224
  · have h9 := sc_kg13 (y - 208) (by omega)
    rw [show 208 + (y - 208) = y by omega] at h9
    rw [show y / 16 = 13 by omega, show y % 16 = y - 208 by omega]
    exact h9
  by_cases h14 : y < 240
  · have h9 := sc_kg14 (y - 224) (by omega)
    rw [show 224 + (y - 224) = y by omega] at h9
    rw [show y / 16 = 14 by omega, show y % 16 = y - 224 by omega]
    exact h9
  by_cases h15 : y < 256
  · have h9 := sc_kg15 (y - 240) (by omega)
    rw [show 240 + (y - 240) = y by omega] at h9
    rw [show y / 16 = 15 by omega, show y % 16 = y - 240 by omega]
    exact h9
  by_cases h16 : y < 272
  · have h9 := sc_kg16 (y - 256) (by omega)
    rw [show 256 + (y - 256) = y by omega] at h9
    rw [show y / 16 = 16 by omega, show y % 16 = y - 256 by omega]
    exact h9
  omega
theorem sc_inf : ∀ y, y < 272 → (jv_inf y).isSome = true := by decide +kernel
