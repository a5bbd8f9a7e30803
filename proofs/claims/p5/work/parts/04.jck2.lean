theorem jv_k204 : jv_ck2 (jv_ym 204).2.1 0 jv_c204 = true := by decide +kernel
theorem jv_k205 : jv_ck2 (jv_ym 205).2.1 0 jv_c205 = true := by decide +kernel
theorem jv_k206 : jv_ck2 (jv_ym 206).2.1 0 jv_c206 = true := by decide +kernel
theorem jv_k207 : jv_ck2 (jv_ym 207).2.1 0 jv_c207 = true := by decide +kernel
theorem jv_k208_0 : jv_ck2 (jv_ym 208).2.1 0 jv_c208_0 = true := by decide +kernel
theorem jv_k208_1 : jv_ck2 (jv_ym 208).2.1 192 jv_c208_1 = true := by decide +kernel
theorem jv_k208 : jv_ck2 (jv_ym 208).2.1 0 jv_c208 = true := by
  unfold jv_c208
  simp only [jv_ck2_app, Bool.and_eq_true]
  exact ⟨jv_k208_0, jv_k208_1⟩
theorem jv_k209 : jv_ck2 (jv_ym 209).2.1 0 jv_c209 = true := by decide +kernel
theorem jv_k210 : jv_ck2 (jv_ym 210).2.1 0 jv_c210 = true := by decide +kernel
theorem jv_k211 : jv_ck2 (jv_ym 211).2.1 0 jv_c211 = true := by decide +kernel
theorem jv_k212 : jv_ck2 (jv_ym 212).2.1 0 jv_c212 = true := by decide +kernel
theorem jv_k213 : jv_ck2 (jv_ym 213).2.1 0 jv_c213 = true := by decide +kernel
