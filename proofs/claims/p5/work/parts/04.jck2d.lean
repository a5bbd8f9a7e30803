theorem jv_k254 : jv_ck2 (jv_ym 254).2.1 0 jv_c254 = true := by decide +kernel
theorem jv_k255 : jv_ck2 (jv_ym 255).2.1 0 jv_c255 = true := by decide +kernel
theorem jv_k256 : jv_ck2 (jv_ym 256).2.1 0 jv_c256 = true := by decide +kernel
theorem jv_k257 : jv_ck2 (jv_ym 257).2.1 0 jv_c257 = true := by decide +kernel
theorem jv_k258 : jv_ck2 (jv_ym 258).2.1 0 jv_c258 = true := by decide +kernel
theorem jv_k259 : jv_ck2 (jv_ym 259).2.1 0 jv_c259 = true := by decide +kernel
theorem jv_k260 : jv_ck2 (jv_ym 260).2.1 0 jv_c260 = true := by decide +kernel
theorem jv_k261 : jv_ck2 (jv_ym 261).2.1 0 jv_c261 = true := by decide +kernel
theorem jv_k262 : jv_ck2 (jv_ym 262).2.1 0 jv_c262 = true := by decide +kernel
theorem jv_k263 : jv_ck2 (jv_ym 263).2.1 0 jv_c263 = true := by decide +kernel
theorem jv_k264_0 : jv_ck2 (jv_ym 264).2.1 0 jv_c264_0 = true := by decide +kernel
theorem jv_k264_1 : jv_ck2 (jv_ym 264).2.1 192 jv_c264_1 = true := by decide +kernel
theorem jv_k264 : jv_ck2 (jv_ym 264).2.1 0 jv_c264 = true := by
  unfold jv_c264
  simp only [jv_ck2_app, Bool.and_eq_true]
  exact ⟨jv_k264_0, jv_k264_1⟩
