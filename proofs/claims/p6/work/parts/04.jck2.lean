theorem jv_k204 : jv_ck2 (jv_ym 204).2.1 0 jv_c204 = true := by decide +kernel
theorem jv_k205 : jv_ck2 (jv_ym 205).2.1 0 jv_c205 = true := by decide +kernel
theorem jv_k206 : jv_ck2 (jv_ym 206).2.1 0 jv_c206 = true := by decide +kernel
theorem jv_k207 : jv_ck2 (jv_ym 207).2.1 0 jv_c207 = true := by decide +kernel
theorem jv_k208_0 : jv_ck2 (jv_ym 208).2.1 0 jv_c208_0 = true := by decide +kernel
theorem jv_k208_1 : jv_ck2 (jv_ym 208).2.1 192 jv_c208_1 = true := by decide +kernel
theorem jv_k208 : jv_ck2 (jv_ym 208).2.1 0 jv_c208 = true := by
  unfold jv_c208
  simp only [jv_ck2_app, Bool.and_eq_true]
  exact ⟨jv_k208_0, jv_k208_1⟩
theorem jv_k209 : jv_ck2 (jv_ym 209).2.1 0 jv_c209 = true := by decide +kernel
theorem jv_k210 : jv_ck2 (jv_ym 210).2.1 0 jv_c210 = true := by decide +kernel
theorem jv_k211 : jv_ck2 (jv_ym 211).2.1 0 jv_c211 = true := by decide +kernel
theorem jv_k212 : jv_ck2 (jv_ym 212).2.1 0 jv_c212 = true := by decide +kernel
theorem jv_k213 : jv_ck2 (jv_ym 213).2.1 0 jv_c213 = true := by decide +kernel
theorem jv_k214 : jv_ck2 (jv_ym 214).2.1 0 jv_c214 = true := by decide +kernel
theorem jv_k215 : jv_ck2 (jv_ym 215).2.1 0 jv_c215 = true := by decide +kernel
theorem jv_k216 : jv_ck2 (jv_ym 216).2.1 0 jv_c216 = true := by decide +kernel
theorem jv_k217 : jv_ck2 (jv_ym 217).2.1 0 jv_c217 = true := by decide +kernel
theorem jv_k218 : jv_ck2 (jv_ym 218).2.1 0 jv_c218 = true := by decide +kernel
theorem jv_k219 : jv_ck2 (jv_ym 219).2.1 0 jv_c219 = true := by decide +kernel
theorem jv_k220 : jv_ck2 (jv_ym 220).2.1 0 jv_c220 = true := by decide +kernel
theorem jv_k221 : jv_ck2 (jv_ym 221).2.1 0 jv_c221 = true := by decide +kernel
theorem jv_k222 : jv_ck2 (jv_ym 222).2.1 0 jv_c222 = true := by decide +kernel
theorem jv_k223 : jv_ck2 (jv_ym 223).2.1 0 jv_c223 = true := by decide +kernel
theorem jv_k224 : jv_ck2 (jv_ym 224).2.1 0 jv_c224 = true := by decide +kernel
theorem jv_k225 : jv_ck2 (jv_ym 225).2.1 0 jv_c225 = true := by decide +kernel
theorem jv_k226 : jv_ck2 (jv_ym 226).2.1 0 jv_c226 = true := by decide +kernel
theorem jv_k227 : jv_ck2 (jv_ym 227).2.1 0 jv_c227 = true := by decide +kernel
theorem jv_k228 : jv_ck2 (jv_ym 228).2.1 0 jv_c228 = true := by decide +kernel
theorem jv_k229_0 : jv_ck2 (jv_ym 229).2.1 0 jv_c229_0 = true := by decide +kernel
theorem jv_k229_1 : jv_ck2 (jv_ym 229).2.1 192 jv_c229_1 = true := by decide +kernel
theorem jv_k229 : jv_ck2 (jv_ym 229).2.1 0 jv_c229 = true := by
  unfold jv_c229
  simp only [jv_ck2_app, Bool.and_eq_true]
  exact ⟨jv_k229_0, jv_k229_1⟩
theorem jv_k230 : jv_ck2 (jv_ym 230).2.1 0 jv_c230 = true := by decide +kernel
theorem jv_k231 : jv_ck2 (jv_ym 231).2.1 0 jv_c231 = true := by decide +kernel
theorem jv_k232 : jv_ck2 (jv_ym 232).2.1 0 jv_c232 = true := by decide +kernel
theorem jv_k233 : jv_ck2 (jv_ym 233).2.1 0 jv_c233 = true := by decide +kernel
theorem jv_k234 : jv_ck2 (jv_ym 234).2.1 0 jv_c234 = true := by decide +kernel
theorem jv_k235 : jv_ck2 (jv_ym 235).2.1 0 jv_c235 = true := by decide +kernel
theorem jv_k236 : jv_ck2 (jv_ym 236).2.1 0 jv_c236 = true := by decide +kernel
theorem jv_k237 : jv_ck2 (jv_ym 237).2.1 0 jv_c237 = true := by decide +kernel
theorem jv_k238 : jv_ck2 (jv_ym 238).2.1 0 jv_c238 = true := by decide +kernel
theorem jv_k239 : jv_ck2 (jv_ym 239).2.1 0 jv_c239 = true := by decide +kernel
theorem jv_k240 : jv_ck2 (jv_ym 240).2.1 0 jv_c240 = true := by decide +kernel
theorem jv_k241 : jv_ck2 (jv_ym 241).2.1 0 jv_c241 = true := by decide +kernel
theorem jv_k242 : jv_ck2 (jv_ym 242).2.1 0 jv_c242 = true := by decide +kernel
theorem jv_k243 : jv_ck2 (jv_ym 243).2.1 0 jv_c243 = true := by decide +kernel
theorem jv_k244 : jv_ck2 (jv_ym 244).2.1 0 jv_c244 = true := by decide +kernel
theorem jv_k245 : jv_ck2 (jv_ym 245).2.1 0 jv_c245 = true := by decide +kernel
theorem jv_k246 : jv_ck2 (jv_ym 246).2.1 0 jv_c246 = true := by decide +kernel
theorem jv_k247 : jv_ck2 (jv_ym 247).2.1 0 jv_c247 = true := by decide +kernel
theorem jv_k248 : jv_ck2 (jv_ym 248).2.1 0 jv_c248 = true := by decide +kernel
theorem jv_k249 : jv_ck2 (jv_ym 249).2.1 0 jv_c249 = true := by decide +kernel
theorem jv_k250 : jv_ck2 (jv_ym 250).2.1 0 jv_c250 = true := by decide +kernel
theorem jv_k251 : jv_ck2 (jv_ym 251).2.1 0 jv_c251 = true := by decide +kernel
theorem jv_k252 : jv_ck2 (jv_ym 252).2.1 0 jv_c252 = true := by decide +kernel
theorem jv_k253 : jv_ck2 (jv_ym 253).2.1 0 jv_c253 = true := by decide +kernel
theorem jv_k254 : jv_ck2 (jv_ym 254).2.1 0 jv_c254 = true := by decide +kernel
theorem jv_k255 : jv_ck2 (jv_ym 255).2.1 0 jv_c255 = true := by decide +kernel
theorem jv_k256 : jv_ck2 (jv_ym 256).2.1 0 jv_c256 = true := by decide +kernel
theorem jv_k257 : jv_ck2 (jv_ym 257).2.1 0 jv_c257 = true := by decide +kernel
theorem jv_k258 : jv_ck2 (jv_ym 258).2.1 0 jv_c258 = true := by decide +kernel
theorem jv_k259 : jv_ck2 (jv_ym 259).2.1 0 jv_c259 = true := by decide +kernel
theorem jv_k260 : jv_ck2 (jv_ym 260).2.1 0 jv_c260 = true := by decide +kernel
theorem jv_k261 : jv_ck2 (jv_ym 261).2.1 0 jv_c261 = true := by decide +kernel
theorem jv_k262 : jv_ck2 (jv_ym 262).2.1 0 jv_c262 = true := by decide +kernel
theorem jv_k263 : jv_ck2 (jv_ym 263).2.1 0 jv_c263 = true := by decide +kernel
theorem jv_k264_0 : jv_ck2 (jv_ym 264).2.1 0 jv_c264_0 = true := by decide +kernel
theorem jv_k264_1 : jv_ck2 (jv_ym 264).2.1 192 jv_c264_1 = true := by decide +kernel
theorem jv_k264 : jv_ck2 (jv_ym 264).2.1 0 jv_c264 = true := by
  unfold jv_c264
  simp only [jv_ck2_app, Bool.and_eq_true]
  exact ⟨jv_k264_0, jv_k264_1⟩
theorem jv_k265 : jv_ck2 (jv_ym 265).2.1 0 jv_c265 = true := by decide +kernel
theorem jv_k266 : jv_ck2 (jv_ym 266).2.1 0 jv_c266 = true := by decide +kernel
theorem jv_k267 : jv_ck2 (jv_ym 267).2.1 0 jv_c267 = true := by decide +kernel
theorem jv_k268 : jv_ck2 (jv_ym 268).2.1 0 jv_c268 = true := by decide +kernel
theorem jv_k269 : jv_ck2 (jv_ym 269).2.1 0 jv_c269 = true := by decide +kernel
theorem jv_k270 : jv_ck2 (jv_ym 270).2.1 0 jv_c270 = true := by decide +kernel
theorem jv_k271_0 : jv_ck2 (jv_ym 271).2.1 0 jv_c271_0 = true := by decide +kernel
theorem jv_k271_1 : jv_ck2 (jv_ym 271).2.1 192 jv_c271_1 = true := by decide +kernel
theorem jv_k271_2 : jv_ck2 (jv_ym 271).2.1 384 jv_c271_2 = true := by decide +kernel
theorem jv_k271_3 : jv_ck2 (jv_ym 271).2.1 576 jv_c271_3 = true := by decide +kernel
theorem jv_k271_4 : jv_ck2 (jv_ym 271).2.1 768 jv_c271_4 = true := by decide +kernel
theorem jv_k271_5 : jv_ck2 (jv_ym 271).2.1 960 jv_c271_5 = true := by decide +kernel
theorem jv_k271_6 : jv_ck2 (jv_ym 271).2.1 1152 jv_c271_6 = true := by decide +kernel
theorem jv_k271 : jv_ck2 (jv_ym 271).2.1 0 jv_c271 = true := by
  unfold jv_c271
  simp only [jv_ck2_app, Bool.and_eq_true]
  exact ⟨⟨⟨⟨⟨⟨jv_k271_0, jv_k271_1⟩, jv_k271_2⟩, jv_k271_3⟩, jv_k271_4⟩, jv_k271_5⟩, jv_k271_6⟩
