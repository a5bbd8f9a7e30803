theorem jv_k229_0 : jv_ck2 (jv_ym 229).2.1 0 jv_c229_0 = true := by decide +kernel
theorem jv_k229_1 : jv_ck2 (jv_ym 229).2.1 192 jv_c229_1 = true := by decide +kernel
theorem jv_k229 : jv_ck2 (jv_ym 229).2.1 0 jv_c229 = true := by
  unfold jv_c229
  simp only [jv_ck2_app, Bool.and_eq_true]
  exact ⟨jv_k229_0, jv_k229_1⟩
theorem jv_k230 : jv_ck2 (jv_ym 230).2.1 0 jv_c230 = true := by decide +kernel
theorem jv_k231 : jv_ck2 (jv_ym 231).2.1 0 jv_c231 = true := by decide +kernel
theorem jv_k232 : jv_ck2 (jv_ym 232).2.1 0 jv_c232 = true := by decide +kernel
theorem jv_k233 : jv_ck2 (jv_ym 233).2.1 0 jv_c233 = true := by decide +kernel
theorem jv_k234 : jv_ck2 (jv_ym 234).2.1 0 jv_c234 = true := by decide +kernel
theorem jv_k235 : jv_ck2 (jv_ym 235).2.1 0 jv_c235 = true := by decide +kernel
theorem jv_k236 : jv_ck2 (jv_ym 236).2.1 0 jv_c236 = true := by decide +kernel
theorem jv_k237 : jv_ck2 (jv_ym 237).2.1 0 jv_c237 = true := by decide +kernel
theorem jv_k238 : jv_ck2 (jv_ym 238).2.1 0 jv_c238 = true := by decide +kernel
