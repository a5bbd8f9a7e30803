theorem jv_k265 : jv_ck2 (jv_ym 265).2.1 0 jv_c265 = true := by decide +kernel
theorem jv_k266 : jv_ck2 (jv_ym 266).2.1 0 jv_c266 = true := by decide +kernel
theorem jv_k267 : jv_ck2 (jv_ym 267).2.1 0 jv_c267 = true := by decide +kernel
theorem jv_k268 : jv_ck2 (jv_ym 268).2.1 0 jv_c268 = true := by decide +kernel
theorem jv_k269 : jv_ck2 (jv_ym 269).2.1 0 jv_c269 = true := by decide +kernel
theorem jv_k270 : jv_ck2 (jv_ym 270).2.1 0 jv_c270 = true := by decide +kernel
theorem jv_k271_0 : jv_ck2 (jv_ym 271).2.1 0 jv_c271_0 = true := by decide +kernel
theorem jv_k271_1 : jv_ck2 (jv_ym 271).2.1 192 jv_c271_1 = true := by decide +kernel
theorem jv_k271_2 : jv_ck2 (jv_ym 271).2.1 384 jv_c271_2 = true := by decide +kernel
theorem jv_k271_3 : jv_ck2 (jv_ym 271).2.1 576 jv_c271_3 = true := by decide +kernel
theorem jv_k271_4 : jv_ck2 (jv_ym 271).2.1 768 jv_c271_4 = true := by decide +kernel
theorem jv_k271_5 : jv_ck2 (jv_ym 271).2.1 960 jv_c271_5 = true := by decide +kernel
theorem jv_k271_6 : jv_ck2 (jv_ym 271).2.1 1152 jv_c271_6 = true := by decide +kernel
theorem jv_k271 : jv_ck2 (jv_ym 271).2.1 0 jv_c271 = true := by
  unfold jv_c271
  simp only [jv_ck2_app, Bool.and_eq_true]
  exact ⟨⟨⟨⟨⟨⟨jv_k271_0, jv_k271_1⟩, jv_k271_2⟩, jv_k271_3⟩, jv_k271_4⟩, jv_k271_5⟩, jv_k271_6⟩

